set_option maxRecDepth 100000 in
theorem m_3 : Cond.initialized "java/lang/Math" ∈ W0 := w0_in (List.mem_append_right _ (List.mem_of_getElem? (i := 3) rfl)) rfl
set_option maxRecDepth 100000 in
theorem m_32 : Cond.instanceMethod objectInit ∈ W0 := w0_in (List.mem_append_right _ (List.mem_of_getElem? (i := 32) rfl)) rfl
set_option maxRecDepth 100000 in
theorem m_33 : Cond.code objectInit ⟨#[0xb1]⟩ 1 none ∈ W0 := w0_in (List.mem_append_right _ (List.mem_of_getElem? (i := 33) rfl)) rfl
set_option maxRecDepth 100000 in
theorem m_39 : Cond.methodLink RX9 3 objectInit ∈ W0 := w0_in (List.mem_append_right _ (List.mem_of_getElem? (i := 39) rfl)) rfl
set_option maxRecDepth 100000 in
theorem m_40 : Cond.methodLink RX9 9 Lib.Math.max.name ∈ W0 := w0_in (List.mem_append_right _ (List.mem_of_getElem? (i := 40) rfl)) rfl
set_option maxRecDepth 100000 in
theorem m_41 : Cond.static Lib.Math.max.name ∈ W0 := w0_in (List.mem_append_right _ (List.mem_of_getElem? (i := 41) rfl)) rfl
set_option maxRecDepth 100000 in
theorem m_42 : Cond.code Lib.Math.max.name Lib.Math.max.code 2 (some .int) ∈ W0 := w0_in (List.mem_append_right _ (List.mem_of_getElem? (i := 42) rfl)) rfl
set_option maxRecDepth 100000 in
theorem m_43 : Cond.fieldLink RX9 15 (TX9 0).1 (TX9 0).2.1 (TX9 0).2.2.1 ∈ W0 := w0_in (List.mem_append_right _ (List.mem_of_getElem? (i := 43) rfl)) rfl
set_option maxRecDepth 100000 in
theorem m_54 : Cond.arrayClass .int ∈ W0 := w0_in (List.mem_append_right _ (List.mem_of_getElem? (i := 54) rfl)) rfl
theorem i_X9 : ∀ w ∈ u_ws RX9 TX9 2, w ∈ W0 := by
  intro w hw
  exact w0_in (List.mem_append_right _ ((by decide +kernel : ∀ w ∈ u_ws RX9 TX9 2, w ∈ tables_1) w hw)) ((by decide +kernel : ∀ w ∈ u_ws RX9 TX9 2, goodWord w = true) w hw)
section
variable {p : Program} {l : Launch} {e : Env} {R : Room} {s : State} {m : MethodId} {args : Array Value} {below : List Frame} {meth : Method} {c : Code} {H : Heap} {locs : List Loc} {cells slots : Nat} {Q : State → Prop}
variable {cc : ByteArray} {pc : Nat} {ls : Array Slot} {rest : List Value} {X : Ec} {h h1 : Hp} {nL : Nat} {rt : Option FieldType} {mn : String}
theorem pf_X9_15 {a r : Nat} (C : Cx X p s m args meth c RX9 cc nL rt mn) (hW : Wx X h H) (hZ : va_S (aA (eB X)) s.heap H locs) (hmn : mn = "<init>") (ha : hK h a = 9) (hr : hK h r = 17) (eh : h1 = wR h a 0 (some r)) (hdg : decode cc pc = .ok (.putfield 15, 3)) (kk : ∀ (H1 : Heap) (locs1 : List Loc), Wx X h1 H1 → Km h h1 → va_S (aA (eB X)) s.heap H1 locs1 → W p l e R s m args below meth c H1 locs1 cells slots Q (F0 m (pc + 3) ls rest)) : W p l e R s m args below meth c H locs cells slots Q (F0 m pc ls (.ref r :: .ref a :: rest)) :=
  y_putrF (ty := .array .int) C hW hZ ha i_X9 tyX9 tyX9_ok nmX9 (by decide) rfl rfl (by decide) m_43 rfl hmn rfl (by decide +kernel) rfl rfl rfl hr rfl (by decide) eh hdg kk
end
theorem dX9_init_0 : decode cX9_init 0 = .ok (.aload_n 0, 1) := by decide +kernel
theorem dX9_init_1 : decode cX9_init 1 = .ok (.invokespecial 3, 3) := by decide +kernel
theorem dX9_init_4 : decode cX9_init 4 = .ok (.aload_n 0, 1) := by decide +kernel
theorem dX9_init_5 : decode cX9_init 5 = .ok (.iload_n 1, 1) := by decide +kernel
theorem dX9_init_6 : decode cX9_init 6 = .ok (.iconst 0, 1) := by decide +kernel
theorem dX9_init_7 : decode cX9_init 7 = .ok (.invokestatic 9, 3) := by decide +kernel
theorem dX9_init_10 : decode cX9_init 10 = .ok (.newarray .int, 2) := by decide +kernel
theorem dX9_init_12 : decode cX9_init 12 = .ok (.putfield 15, 3) := by decide +kernel
theorem dX9_init_15 : decode cX9_init 15 = .ok (.return_, 1) := by decide +kernel
set_option maxRecDepth 20000 in
theorem moX9_init_12 {o : Hp} {h : Hp} {t0 : Nat} {t1 : Nat} (hE : sX9_init_12 h  t0 t1 = some o) : Le h o := by
  obtain ⟨h_1, eh_1, hE⟩ := nm_e2 hE
  refine (le_R eh_1).tr ?_
  exact le_some1 hE
set_option maxRecDepth 20000 in
theorem moX9_init_10 {o : Hp} {h : Hp} {t0 : Int32} {t1 : Nat} (hE : sX9_init_10 h  t0 t1 = some o) : Le h o := by
  obtain ⟨g_3, hE⟩ := gd_e hE
  obtain ⟨g_4, hE⟩ := gd_e hE
  obtain ⟨a_1, ea_1, hE⟩ := nm_e2 hE
  obtain ⟨h_2, eh_2, hE⟩ := nm_e2 hE
  refine (le_C eh_2).tr ?_
  exact moX9_init_12 hE
set_option maxRecDepth 20000 in
theorem moX9_init {o : Hp} {h : Hp} {x0 : Nat} {x1 : Int32} (hE : sX9_init h x0 x1 = some o) : Le h o := by
  exact moX9_init_10 hE
set_option maxRecDepth 20000 in
theorem bX9_init_12 {p : Program} {l : Launch} {e : Env} {s : State} {m : MethodId} {args : Array Value} {below : List Frame} {meth : Method} {c : Code} {X : Ec} {h0 : Hp} {o : Hp} (C : Cx X p s m args meth c RX9 cX9_init 2 none "<init>") {h : Hp} {t0 : Nat} {t1 : Nat} {H : Heap} {locs : List Loc} (k_t0 : hK h t0 = 17) (k_t1 : hK h t1 = 9) (hkl : Kl h0 h) (hW : Wx X h H) (hZ : va_S (aA (eB X)) s.heap H locs) (ls : Array Slot) (hl : lv_has ls 2 []) (hE : sX9_init_12 h  t0 t1 = some o) : W p l e (rmA 1 24 h0 o) s m args below meth c H locs (hS h - hS h0) (hL h - hL h0) (MQ below (QVA X h0 o) args s (hS o - hS h0) (hL o - hL h0) (aA (eB X))) (F0 m 12 ls [.ref t0, .ref t1]) := by
  obtain ⟨h_1, eh_1, hE⟩ := nm_e2 hE
  refine pf_X9_15 C hW hZ rfl k_t1 k_t0 eh_1 dX9_init_12 (fun _ _ hW km hZ => ?_)
  replace hkl := hkl.tr km.l
  refine x_wc km ?_
  exact x_vretA C rfl hW hZ hkl hE dX9_init_15
set_option maxRecDepth 20000 in
theorem bX9_init_10 {p : Program} {l : Launch} {e : Env} {s : State} {m : MethodId} {args : Array Value} {below : List Frame} {meth : Method} {c : Code} {X : Ec} {h0 : Hp} {o : Hp} (C : Cx X p s m args meth c RX9 cX9_init 2 none "<init>") {h : Hp} {t0 : Int32} {t1 : Nat} {H : Heap} {locs : List Loc} (k_t1 : hK h t1 = 9) (hkl : Kl h0 h) (hW : Wx X h H) (hZ : va_S (aA (eB X)) s.heap H locs) (ls : Array Slot) (hl : lv_has ls 2 []) (hE : sX9_init_10 h  t0 t1 = some o) : W p l e (rmA 1 24 h0 o) s m args below meth c H locs (hS h - hS h0) (hL h - hL h0) (MQ below (QVA X h0 o) args s (hS o - hS h0) (hL o - hL h0) (aA (eB X))) (F0 m 10 ls [.int t0, .ref t1]) := by
  obtain ⟨g_3, hE⟩ := gd_e hE
  obtain ⟨g_4, hE⟩ := gd_e hE
  obtain ⟨a_1, ea_1, hE⟩ := nm_e2 hE
  obtain ⟨h_2, eh_2, hE⟩ := nm_e2 hE
  refine y_newa (k := 17) (ty := .int) (t0 := 1) C hW hZ hkl (moX9_init_12 hE) ⟨rfl, rfl⟩ (by decide) (by decide) rfl rfl (by intro C hC; cases hC) hdef_17 m_54 g_3 (Nat.le_trans (Nat.mul_le_mul_right _ g_4) (by decide)) eh_2 dX9_init_10 (fun _ hW km k_a_1 hZ => ?_)
  replace hkl := hkl.tr km
  refine x_nmA ea_1 ?_
  rw [← ea_1] at k_a_1
  replace k_t1 := km.at k_t1 (by decide)
  exact bX9_init_12 C k_a_1 k_t1 hkl hW hZ _ (lv_sub hl [] rfl) hE
set_option maxRecDepth 20000 in
theorem ct_X9_init (l : Launch) (X : Ec) {h : Hp} {x0 : Nat} {x1 : Int32} {o : Hp} (k_x0 : hK h x0 = 9) (hE : sX9_init h x0 x1 = some o) : MetVA l yX9_init cX9_init 2 none 1 24 X [.ref x0, .int x1] h o := by
  refine x_metA (oh := o) (by decide) (Nat.le_of_ble_eq_true rfl) ?_
  intro p e s m below meth c ls C hl hW hZ
  have hl : lv_has ls 2 [(0, .ref x0), (1, .int x1)] := hl
  have hkl : Kl h h := Kl.rf h
  refine lv_aload_n C.1 C.2.1 dX9_init_0 rfl (lv_at hl 0 rfl) ?_
  refine W.objInit C.1 C.2.1 C.2.2.2.1 (C.2.2.2.2.1 _ m_39) (C.2.2.2.2.1 _ m_32) (C.2.2.2.2.1 _ m_33) rfl (by rw [C.2.2.1]; exact hl.1) rfl dX9_init_1 (Nat.le_of_ble_eq_true rfl) (Nat.le_of_ble_eq_true rfl) ?_
  refine W.eq (g2 := F0 m 4 ls []) rfl ?_
  refine lv_aload_n C.1 C.2.1 dX9_init_4 rfl (lv_at hl 0 rfl) ?_
  refine lv_iload_n C.1 C.2.1 dX9_init_5 rfl (lv_at hl 1 rfl) ?_
  refine lv_iconst (v := (0 : Int32)) C.1 C.2.1 dX9_init_6 (by decide) ?_
  refine va_mmax C.1 C.2.1 (C.2.2.1.trans hl.1.symm) C.2.2.2.1 (C.2.2.2.2.1 _ m_40) (C.2.2.2.2.1 _ m_41) (C.2.2.2.2.1 _ m_3) (C.2.2.2.2.1 _ m_42) (Nat.le_of_ble_eq_true rfl) (Nat.le_of_ble_eq_true rfl) (rm_ok0 hkl (Le.rf _) (moX9_init_10 hE)).1 (rm_ok0 hkl (Le.rf _) (moX9_init_10 hE)).2 dX9_init_7 ?_
  exact bX9_init_10 C k_x0 hkl hW hZ _ (lv_sub hl [] rfl) hE
set_option maxRecDepth 100000 in
theorem m_45 : Cond.fieldLink RX9 21 (TX9 1).1 (TX9 1).2.1 (TX9 1).2.2.1 ∈ W0 := w0_in (List.mem_append_right _ (List.mem_of_getElem? (i := 45) rfl)) rfl
section
variable {p : Program} {l : Launch} {e : Env} {R : Room} {s : State} {m : MethodId} {args : Array Value} {below : List Frame} {meth : Method} {c : Code} {H : Heap} {locs : List Loc} {cells slots : Nat} {Q : State → Prop}
variable {cc : ByteArray} {pc : Nat} {ls : Array Slot} {rest : List Value} {X : Ec} {h h1 : Hp} {nL : Nat} {rt : Option FieldType} {mn : String}
theorem gf_X9_21 {a : Nat} (C : Cx X p s m args meth c RX9 cc nL rt mn) (hW : Wx X h H) (ha : hK h a = 9) (hdg : decode cc pc = .ok (.getfield 21, 3)) (kk : W p l e R s m args below meth c H locs cells slots Q (F0 m (pc + 3) ls (.int (hI h a 1) :: rest))) : W p l e R s m args below meth c H locs cells slots Q (F0 m pc ls (.ref a :: rest)) :=
  y_geti C hW ha i_X9 (by decide) rfl (by decide) m_45 rfl hdg kk
theorem gf_X9_15 {a r : Nat} (C : Cx X p s m args meth c RX9 cc nL rt mn) (hW : Wx X h H) (ha : hK h a = 9) (hr : hR h a 0 = some r) (hdg : decode cc pc = .ok (.getfield 15, 3)) (kk : hK h r = 17 → W p l e R s m args below meth c H locs cells slots Q (F0 m (pc + 3) ls (.ref r :: rest))) : W p l e R s m args below meth c H locs cells slots Q (F0 m pc ls (.ref a :: rest)) :=
  y_getr C hW ha i_X9 (by decide) rfl (by decide) m_43 rfl rfl hr hdg kk
theorem pf_X9_21 {a : Nat} {v : Int32} (C : Cx X p s m args meth c RX9 cc nL rt mn) (hW : Wx X h H) (hZ : va_S (aA (eB X)) s.heap H locs) (ha : hK h a = 9) (eh : h1 = wI h a 1 v) (hdg : decode cc pc = .ok (.putfield 21, 3)) (kk : ∀ (H1 : Heap) (locs1 : List Loc), Wx X h1 H1 → Km h h1 → va_S (aA (eB X)) s.heap H1 locs1 → W p l e R s m args below meth c H1 locs1 cells slots Q (F0 m (pc + 3) ls rest)) : W p l e R s m args below meth c H locs cells slots Q (F0 m pc ls (.int v :: .ref a :: rest)) :=
  y_puti (ty := .int) C hW hZ ha i_X9 tyX9 tyX9_ok nmX9 (by decide) rfl rfl (by decide) m_45 rfl (by decide +kernel) rfl rfl rfl eh hdg kk
end
theorem dX9_append_0 : decode cX9_append 0 = .ok (.aload_n 0, 1) := by decide +kernel
theorem dX9_append_1 : decode cX9_append 1 = .ok (.getfield 21, 3) := by decide +kernel
theorem dX9_append_4 : decode cX9_append 4 = .ok (.aload_n 0, 1) := by decide +kernel
theorem dX9_append_5 : decode cX9_append 5 = .ok (.getfield 15, 3) := by decide +kernel
theorem dX9_append_8 : decode cX9_append 8 = .ok (.arraylength, 1) := by decide +kernel
theorem dX9_append_9 : decode cX9_append 9 = .ok (.if_icmp .ge 27, 3) := by decide +kernel
theorem dX9_append_12 : decode cX9_append 12 = .ok (.aload_n 0, 1) := by decide +kernel
theorem dX9_append_13 : decode cX9_append 13 = .ok (.getfield 15, 3) := by decide +kernel
theorem dX9_append_16 : decode cX9_append 16 = .ok (.aload_n 0, 1) := by decide +kernel
theorem dX9_append_17 : decode cX9_append 17 = .ok (.getfield 21, 3) := by decide +kernel
theorem dX9_append_20 : decode cX9_append 20 = .ok (.iload_n 1, 1) := by decide +kernel
theorem dX9_append_21 : decode cX9_append 21 = .ok (.sipush 255, 3) := by decide +kernel
theorem dX9_append_24 : decode cX9_append 24 = .ok (.iand, 1) := by decide +kernel
theorem dX9_append_25 : decode cX9_append 25 = .ok (.iastore, 1) := by decide +kernel
theorem dX9_append_26 : decode cX9_append 26 = .ok (.aload_n 0, 1) := by decide +kernel
theorem dX9_append_27 : decode cX9_append 27 = .ok (.dup, 1) := by decide +kernel
theorem dX9_append_28 : decode cX9_append 28 = .ok (.getfield 21, 3) := by decide +kernel
theorem dX9_append_31 : decode cX9_append 31 = .ok (.iconst 1, 1) := by decide +kernel
theorem dX9_append_32 : decode cX9_append 32 = .ok (.iadd, 1) := by decide +kernel
theorem dX9_append_33 : decode cX9_append 33 = .ok (.putfield 21, 3) := by decide +kernel
theorem dX9_append_36 : decode cX9_append 36 = .ok (.return_, 1) := by decide +kernel
set_option maxRecDepth 20000 in
theorem moX9_append_36 {o : Hp} {h : Hp} (hE : sX9_append_36 h  = some o) : Le h o := by
  exact le_some1 hE
set_option maxRecDepth 20000 in
theorem moX9_append {o : Hp} {h : Hp} {x0 : Nat} {x1 : Int32} (hE : sX9_append h x0 x1 = some o) : Le h o := by
  obtain ⟨r_1, er_1, hE⟩ := cl_e hE
  rcases br_e hE with ⟨_, hE⟩ | ⟨_, hE⟩
  · exact moX9_append_36 hE
  · obtain ⟨r_3, er_3, hE⟩ := cl_e hE
    obtain ⟨g_4, hE⟩ := gd_e hE
    obtain ⟨h_5, eh_5, hE⟩ := nm_e2 hE
    refine (le_I eh_5).tr ?_
    obtain ⟨h_6, eh_6, hE⟩ := nm_e2 hE
    refine (le_I eh_6).tr ?_
    exact moX9_append_36 hE
set_option maxRecDepth 20000 in
theorem bX9_append_36 {p : Program} {l : Launch} {e : Env} {s : State} {m : MethodId} {args : Array Value} {below : List Frame} {meth : Method} {c : Code} {X : Ec} {h0 : Hp} {o : Hp} (C : Cx X p s m args meth c RX9 cX9_append 2 none "append") {h : Hp} {H : Heap} {locs : List Loc} (hkm : Km h0 h) (hW : Wx X h H) (hZ : va_S (aA (eB X)) s.heap H locs) (ls : Array Slot) (hl : lv_has ls 2 []) (hE : sX9_append_36 h  = some o) : W p l e (rm 0 0) s m args below meth c H locs 0 0 (MQ below (QV X h0 o) args s 0 0 (aA (eB X))) (F0 m 36 ls []) := by
  exact x_vret C rfl hW hZ hkm hE dX9_append_36
set_option maxRecDepth 20000 in
theorem ct_X9_append (l : Launch) (X : Ec) {h : Hp} {x0 : Nat} {x1 : Int32} {o : Hp} (k_x0 : hK h x0 = 9) (hE : sX9_append h x0 x1 = some o) : MetV l yX9_append cX9_append 2 none 0 0 X [.ref x0, .int x1] h o := by
  refine x_met (by decide) (Nat.le_of_ble_eq_true rfl) ?_
  intro p e s m below meth c ls C hl hW hZ
  have hl : lv_has ls 2 [(0, .ref x0), (1, .int x1)] := hl
  have hkm : Km h h := Km.rf h
  refine lv_aload_n C.1 C.2.1 dX9_append_0 rfl (lv_at hl 0 rfl) ?_
  refine gf_X9_21 C hW k_x0 dX9_append_1 ?_
  refine lv_aload_n C.1 C.2.1 dX9_append_4 rfl (lv_at hl 0 rfl) ?_
  obtain ⟨r_1, er_1, hE⟩ := cl_e hE
  refine gf_X9_15 C hW k_x0 er_1 dX9_append_5 (fun k_r_1 => ?_)
  refine y_alen C hW k_r_1 (by decide) dX9_append_8 ?_
  refine lv_icmp_ge (tgt := 36) C.1 C.2.1 dX9_append_9 (by decide) (fun c_2 => ?_) (fun c_2 => ?_)
  · have hE := br_p hE c_2
    exact bX9_append_36 C hkm hW hZ _ (lv_sub hl [] rfl) hE
  · have hE := br_n hE c_2
    refine lv_aload_n C.1 C.2.1 dX9_append_12 rfl (lv_at hl 0 rfl) ?_
    obtain ⟨r_3, er_3, hE⟩ := cl_e hE
    refine gf_X9_15 C hW k_x0 er_3 dX9_append_13 (fun k_r_3 => ?_)
    refine lv_aload_n C.1 C.2.1 dX9_append_16 rfl (lv_at hl 0 rfl) ?_
    refine gf_X9_21 C hW k_x0 dX9_append_17 ?_
    refine lv_iload_n C.1 C.2.1 dX9_append_20 rfl (lv_at hl 1 rfl) ?_
    refine lv_sipush (v := (255 : Int32)) C.1 C.2.1 dX9_append_21 (by decide) ?_
    refine lv_iand C.1 C.2.1 dX9_append_24 ?_
    obtain ⟨g_4, hE⟩ := gd_e hE
    obtain ⟨h_5, eh_5, hE⟩ := nm_e2 hE
    refine y_iast C hW hZ k_r_3 g_4 eh_5 dX9_append_25 (fun _ _ hW km hZ => ?_)
    replace hkm := hkm.tr km
    replace k_x0 := km.at k_x0 (by decide)
    refine lv_aload_n C.1 C.2.1 dX9_append_26 rfl (lv_at hl 0 rfl) ?_
    refine lv_dup C.1 C.2.1 dX9_append_27 rfl ?_
    refine gf_X9_21 C hW k_x0 dX9_append_28 ?_
    refine lv_iconst (v := (1 : Int32)) C.1 C.2.1 dX9_append_31 (by decide) ?_
    refine lv_iadd C.1 C.2.1 dX9_append_32 ?_
    obtain ⟨h_6, eh_6, hE⟩ := nm_e2 hE
    refine pf_X9_21 C hW hZ k_x0 eh_6 dX9_append_33 (fun _ _ hW km hZ => ?_)
    replace hkm := hkm.tr km
    replace k_x0 := km.at k_x0 (by decide)
    exact bX9_append_36 C hkm hW hZ _ (lv_sub hl [] rfl) hE
set_option maxRecDepth 100000 in
theorem m_2 : Cond.initialized RX9 ∈ W0 := w0_in (List.mem_append_right _ (List.mem_of_getElem? (i := 2) rfl)) rfl
set_option maxRecDepth 100000 in
theorem m_590 : Cond.methodLink RX9 29 yJ0_length_8abf5 ∈ W0 := w0_in (List.mem_append_right _ (List.mem_of_getElem? (i := 590) rfl)) rfl
set_option maxRecDepth 100000 in
theorem m_591 : Cond.instanceMethod yJ0_length_8abf5 ∈ W0 := w0_in (List.mem_append_right _ (List.mem_of_getElem? (i := 591) rfl)) rfl
set_option maxRecDepth 100000 in
theorem m_592 : Cond.selects RJ0 yJ0_length_8abf5 yJ0_length_8abf5 ∈ W0 := w0_in (List.mem_append_right _ (List.mem_of_getElem? (i := 592) rfl)) rfl
set_option maxRecDepth 100000 in
theorem m_593 : Cond.code yJ0_length_8abf5 cJ0_length_8abf5 1 (some .int) ∈ W0 := w0_in (List.mem_append_right _ (List.mem_of_getElem? (i := 593) rfl)) rfl
set_option maxRecDepth 100000 in
theorem m_600 : Cond.methodLink RX9 34 yJ0_charAt_5068e ∈ W0 := w0_in (List.mem_append_right _ (List.mem_of_getElem? (i := 600) rfl)) rfl
set_option maxRecDepth 100000 in
theorem m_601 : Cond.instanceMethod yJ0_charAt_5068e ∈ W0 := w0_in (List.mem_append_right _ (List.mem_of_getElem? (i := 601) rfl)) rfl
set_option maxRecDepth 100000 in
theorem m_602 : Cond.selects RJ0 yJ0_charAt_5068e yJ0_charAt_5068e ∈ W0 := w0_in (List.mem_append_right _ (List.mem_of_getElem? (i := 602) rfl)) rfl
set_option maxRecDepth 100000 in
theorem m_603 : Cond.code yJ0_charAt_5068e cJ0_charAt_5068e 2 (some .char) ∈ W0 := w0_in (List.mem_append_right _ (List.mem_of_getElem? (i := 603) rfl)) rfl
set_option maxRecDepth 100000 in
theorem m_638 : Cond.methodLink RX9 25 yX9_append ∈ W0 := w0_in (List.mem_append_right _ (List.mem_of_getElem? (i := 638) rfl)) rfl
set_option maxRecDepth 100000 in
theorem m_639 : Cond.instanceMethod yX9_append ∈ W0 := w0_in (List.mem_append_right _ (List.mem_of_getElem? (i := 639) rfl)) rfl
set_option maxRecDepth 100000 in
theorem m_640 : Cond.selects RX9 yX9_append yX9_append ∈ W0 := w0_in (List.mem_append_right _ (List.mem_of_getElem? (i := 640) rfl)) rfl
set_option maxRecDepth 100000 in
theorem m_641 : Cond.code yX9_append cX9_append 2 none ∈ W0 := w0_in (List.mem_append_right _ (List.mem_of_getElem? (i := 641) rfl)) rfl
theorem cw_X9_29 : cwd RX9 29 yJ0_length_8abf5 cJ0_length_8abf5 1 (some .int) false 0 := ⟨m_593, m_590, m_15, ⟨m_591, m_592⟩, by decide, by decide, by decide +kernel⟩
theorem cw_X9_34 : cwd RX9 34 yJ0_charAt_5068e cJ0_charAt_5068e 2 (some .char) false 1 := ⟨m_603, m_600, m_15, ⟨m_601, m_602⟩, by decide, by decide, by decide +kernel⟩
theorem cw_X9_25 : cwd RX9 25 yX9_append cX9_append 2 none false 1 := ⟨m_641, m_638, m_2, ⟨m_639, m_640⟩, by decide, by decide, by decide +kernel⟩
theorem dX9_appendAll_0 : decode cX9_appendAll 0 = .ok (.iconst 0, 1) := by decide +kernel
theorem dX9_appendAll_1 : decode cX9_appendAll 1 = .ok (.istore_n 2, 1) := by decide +kernel
theorem dX9_appendAll_2 : decode cX9_appendAll 2 = .ok (.iload_n 2, 1) := by decide +kernel
theorem dX9_appendAll_3 : decode cX9_appendAll 3 = .ok (.aload_n 1, 1) := by decide +kernel
theorem dX9_appendAll_4 : decode cX9_appendAll 4 = .ok (.invokevirtual 29, 3) := by decide +kernel
theorem dX9_appendAll_7 : decode cX9_appendAll 7 = .ok (.if_icmp .ge 18, 3) := by decide +kernel
theorem dX9_appendAll_10 : decode cX9_appendAll 10 = .ok (.aload_n 0, 1) := by decide +kernel
theorem dX9_appendAll_11 : decode cX9_appendAll 11 = .ok (.aload_n 1, 1) := by decide +kernel
theorem dX9_appendAll_12 : decode cX9_appendAll 12 = .ok (.iload_n 2, 1) := by decide +kernel
theorem dX9_appendAll_13 : decode cX9_appendAll 13 = .ok (.invokevirtual 34, 3) := by decide +kernel
theorem dX9_appendAll_16 : decode cX9_appendAll 16 = .ok (.invokevirtual 25, 3) := by decide +kernel
theorem dX9_appendAll_19 : decode cX9_appendAll 19 = .ok (.iinc 2 1, 3) := by decide +kernel
theorem dX9_appendAll_22 : decode cX9_appendAll 22 = .ok (.goto (-20), 3) := by decide +kernel
theorem dX9_appendAll_25 : decode cX9_appendAll 25 = .ok (.return_, 1) := by decide +kernel
set_option maxRecDepth 20000 in
theorem moX9_appendAll_2 {o : Hp} {F : Nat} : ∀ (f : Nat) {h : Hp} {x0 : Nat} {x1 : Nat} {x2 : Int32}, sX9_appendAll_2 F f h x0 x1 x2 = some o → Le h o := by
  intro f
  induction f with
  | zero =>
    intro h x0 x1 x2 hE
    rw [sX9_appendAll_2] at hE
    cases hE
  | succ f ih =>
    intro h x0 x1 x2 hE
    rw [sX9_appendAll_2] at hE
    have mk_2 : ∀ (h : Hp) (x0 : Nat) (x1 : Nat) (x2 : Int32), sX9_appendAll_2 F f h x0 x1 x2 = some o → Le h o := fun h x0 x1 x2 hE => ih hE
    rcases br_e hE with ⟨_, hE⟩ | ⟨_, hE⟩
    · exact le_some1 hE
    · obtain ⟨g_2, hE⟩ := gd_e hE
      obtain ⟨o_3, eo_3, hE⟩ := cl_e hE
      refine (moX9_append eo_3).tr ?_
      obtain ⟨v_4, ev_4, hE⟩ := nm_e2 hE
      exact mk_2 _ _ _ _ hE
set_option maxRecDepth 20000 in
theorem moX9_appendAll {o : Hp} {F : Nat} {h : Hp} {x0 : Nat} {x1 : Nat} (hE : sX9_appendAll F h x0 x1 = some o) : Le h o := by
  exact moX9_appendAll_2 _ hE
set_option maxRecDepth 20000 in
theorem bX9_appendAll_2 {p : Program} {l : Launch} {e : Env} {s : State} {m : MethodId} {args : Array Value} {below : List Frame} {meth : Method} {c : Code} {X : Ec} {h0 : Hp} {o : Hp} {F : Nat} (C : Cx X p s m args meth c RX9 cX9_appendAll 3 none "appendAll") : ∀ (f : Nat) {h : Hp} {x0 : Nat} {x1 : Nat} {x2 : Int32} {H : Heap} {locs : List Loc} (k_x0 : hK h x0 = 9) (k_x1 : x1 < 52), Km h0 h → Wx X h H → va_S (aA (eB X)) s.heap H locs → ∀ (ls : Array Slot), lv_has ls 3 [(0, .ref x0), (1, .ref (X.2.2.2.1 x1)), (2, .int x2)] → sX9_appendAll_2 F f h x0 x1 x2 = some o → W p l e (rm 4 85) s m args below meth c H locs 0 0 (MQ below (QV X h0 o) args s 0 0 (aA (eB X))) (F0 m 2 ls []) := by
  intro f
  induction f with
  | zero =>
    intro h x0 x1 x2 H locs k_x0 k_x1 hkm hW hZ ls hl hE
    rw [sX9_appendAll_2] at hE
    cases hE
  | succ f ih =>
    intro h x0 x1 x2 H locs k_x0 k_x1 hkm hW hZ ls hl hE
    rw [sX9_appendAll_2] at hE
    have hk_2 : ∀ (h : Hp) (x0 : Nat) (x1 : Nat) (x2 : Int32) (H : Heap) (locs : List Loc), hK h x0 = 9 → x1 < 52 → Km h0 h → Wx X h H → va_S (aA (eB X)) s.heap H locs → ∀ (ls : Array Slot), lv_has ls 3 [(0, .ref x0), (1, .ref (X.2.2.2.1 x1)), (2, .int x2)] → sX9_appendAll_2 F f h x0 x1 x2 = some o → W p l e (rm 4 85) s m args below meth c H locs 0 0 (MQ below (QV X h0 o) args s 0 0 (aA (eB X))) (F0 m 2 ls []) := fun h x0 x1 x2 H locs k_x0 k_x1 a b c ls hl hE => ih k_x0 k_x1 a b c ls hl hE
    refine lv_iload_n C.1 C.2.1 dX9_appendAll_2 rfl (lv_at hl 2 rfl) ?_
    refine lv_aload_n C.1 C.2.1 dX9_appendAll_3 rfl (lv_at hl 1 rfl) ?_
    refine x_kI (o := (nI (lB x1).length, h)) (x_runVS (As := []) (rest := [.int x2]) C (ct_J0_length_8abf5 l X k_x1) cw_X9_29 hW hZ k_x1 rfl rfl hl.1 (Nat.le_of_ble_eq_true rfl) rfl dX9_appendAll_4 ⟨Nat.le_of_ble_eq_true rfl, Nat.le_of_ble_eq_true rfl⟩ ⟨Nat.le_refl _, Nat.le_refl _⟩) hZ (fun _ _ hW km hZ => ?_)
    refine lv_icmp_ge (tgt := 25) C.1 C.2.1 dX9_appendAll_7 (by decide) (fun c_1 => ?_) (fun c_1 => ?_)
    · have hE := br_p hE c_1
      exact x_vret C rfl hW hZ hkm hE dX9_appendAll_25
    · have hE := br_n hE c_1
      refine lv_aload_n C.1 C.2.1 dX9_appendAll_10 rfl (lv_at hl 0 rfl) ?_
      refine lv_aload_n C.1 C.2.1 dX9_appendAll_11 rfl (lv_at hl 1 rfl) ?_
      refine lv_iload_n C.1 C.2.1 dX9_appendAll_12 rfl (lv_at hl 2 rfl) ?_
      obtain ⟨g_2, hE⟩ := gd_e hE
      refine x_kI (o := (schr x1 x2, h)) (x_runVS (As := [.int x2]) (rest := [.ref x0]) C (ct_J0_charAt_5068e l X k_x1 g_2) cw_X9_34 hW hZ k_x1 rfl rfl hl.1 (Nat.le_of_ble_eq_true rfl) rfl dX9_appendAll_13 ⟨Nat.le_of_ble_eq_true rfl, Nat.le_of_ble_eq_true rfl⟩ ⟨Nat.le_refl _, Nat.le_refl _⟩) hZ (fun _ _ hW km hZ => ?_)
      obtain ⟨o_3, eo_3, hE⟩ := cl_e hE
      refine x_kV (o := o_3) (z_runV (As := [.int (schr x1 x2)]) (rest := []) C (ct_X9_append l X k_x0 eo_3) cw_X9_25 hW hZ k_x0 (by decide) rfl rfl rfl hl.1 (Nat.le_of_ble_eq_true rfl) rfl dX9_appendAll_16 ⟨Nat.le_of_ble_eq_true rfl, Nat.le_of_ble_eq_true rfl⟩ ⟨Nat.le_refl _, Nat.le_refl _⟩) hZ (fun _ _ hW km hZ => ?_)
      replace hkm := hkm.tr km
      replace k_x0 := km.at k_x0 (by decide)
      obtain ⟨v_4, ev_4, hE⟩ := nm_e2 hE
      refine lv_iinc (v := v_4) (lv' := [(2, .int v_4), (0, .ref x0), (1, .ref (X.2.2.2.1 x1))]) C.1 C.2.1 dX9_appendAll_19 hl (k := 2) rfl (by rw [ev_4]; rfl) (by decide) rfl (fun ls hl => ?_)
      refine lv_goto (tgt := 2) C.1 C.2.1 dX9_appendAll_22 (by decide) ?_
      exact hk_2 _ _ _ _ _ _ k_x0 k_x1 hkm hW hZ _ (lv_sub hl [1, 2, 0] rfl) hE
set_option maxRecDepth 20000 in
theorem ct_X9_appendAll (l : Launch) (X : Ec) (F : Nat) {h : Hp} {x0 : Nat} {x1 : Nat} {o : Hp} (k_x0 : hK h x0 = 9) (k_x1 : x1 < 52) (hE : sX9_appendAll F h x0 x1 = some o) : MetV l yX9_appendAll cX9_appendAll 3 none 4 85 X [.ref x0, .ref (X.2.2.2.1 x1)] h o := by
  refine x_met (by decide) (Nat.le_of_ble_eq_true rfl) ?_
  intro p e s m below meth c ls C hl hW hZ
  have hl : lv_has ls 3 [(0, .ref x0), (1, .ref (X.2.2.2.1 x1))] := hl
  have hkm : Km h h := Km.rf h
  refine lv_iconst (v := (0 : Int32)) C.1 C.2.1 dX9_appendAll_0 (by decide) ?_
  refine lv_istore_n (lv' := [(2, .int (0 : Int32)), (0, .ref x0), (1, .ref (X.2.2.2.1 x1))]) C.1 C.2.1 dX9_appendAll_1 rfl hl (by decide) rfl (fun ls hl => ?_)
  exact bX9_appendAll_2 C F k_x0 k_x1 hkm hW hZ _ (lv_sub hl [1, 2, 0] rfl) hE
theorem dX9_byteAt_0 : decode cX9_byteAt 0 = .ok (.iload_n 1, 1) := by decide +kernel
theorem dX9_byteAt_1 : decode cX9_byteAt 1 = .ok (.ifCond .lt 20, 3) := by decide +kernel
theorem dX9_byteAt_4 : decode cX9_byteAt 4 = .ok (.iload_n 1, 1) := by decide +kernel
theorem dX9_byteAt_5 : decode cX9_byteAt 5 = .ok (.aload_n 0, 1) := by decide +kernel
theorem dX9_byteAt_6 : decode cX9_byteAt 6 = .ok (.getfield 21, 3) := by decide +kernel
theorem dX9_byteAt_9 : decode cX9_byteAt 9 = .ok (.if_icmp .ge 12, 3) := by decide +kernel
theorem dX9_byteAt_12 : decode cX9_byteAt 12 = .ok (.aload_n 0, 1) := by decide +kernel
theorem dX9_byteAt_13 : decode cX9_byteAt 13 = .ok (.getfield 15, 3) := by decide +kernel
theorem dX9_byteAt_16 : decode cX9_byteAt 16 = .ok (.iload_n 1, 1) := by decide +kernel
theorem dX9_byteAt_17 : decode cX9_byteAt 17 = .ok (.iaload, 1) := by decide +kernel
theorem dX9_byteAt_18 : decode cX9_byteAt 18 = .ok (.goto 4, 3) := by decide +kernel
theorem dX9_byteAt_21 : decode cX9_byteAt 21 = .ok (.iconst (-1), 1) := by decide +kernel
theorem dX9_byteAt_22 : decode cX9_byteAt 22 = .ok (.ireturn, 1) := by decide +kernel
set_option maxRecDepth 20000 in
theorem moX9_byteAt_22 {o : Int32 × Hp} {h : Hp} {t0 : Int32} (hE : sX9_byteAt_22 h  t0 = some o) : Le h o.2 := by
  exact le_some2 hE
set_option maxRecDepth 20000 in
theorem moX9_byteAt_21 {o : Int32 × Hp} {h : Hp} (hE : sX9_byteAt_21 h  = some o) : Le h o.2 := by
  exact moX9_byteAt_22 hE
set_option maxRecDepth 20000 in
theorem moX9_byteAt {o : Int32 × Hp} {h : Hp} {x0 : Nat} {x1 : Int32} (hE : sX9_byteAt h x0 x1 = some o) : Le h o.2 := by
  rcases br_e hE with ⟨_, hE⟩ | ⟨_, hE⟩
  · exact moX9_byteAt_21 hE
  · rcases br_e hE with ⟨_, hE⟩ | ⟨_, hE⟩
    · exact moX9_byteAt_21 hE
    · obtain ⟨r_3, er_3, hE⟩ := cl_e hE
      obtain ⟨g_4, hE⟩ := gd_e hE
      exact moX9_byteAt_22 hE
set_option maxRecDepth 20000 in
theorem bX9_byteAt_22 {p : Program} {l : Launch} {e : Env} {s : State} {m : MethodId} {args : Array Value} {below : List Frame} {meth : Method} {c : Code} {X : Ec} {h0 : Hp} {o : Int32 × Hp} (C : Cx X p s m args meth c RX9 cX9_byteAt 2 (some .int) "byteAt") {h : Hp} {t0 : Int32} {H : Heap} {locs : List Loc} (hkm : Km h0 h) (hW : Wx X h H) (hZ : va_S (aA (eB X)) s.heap H locs) (ls : Array Slot) (hl : lv_has ls 2 []) (hE : sX9_byteAt_22 h  t0 = some o) : W p l e (rm 0 0) s m args below meth c H locs 0 0 (MQ below (QI X h0 o.1 o.2) args s 0 0 (aA (eB X))) (F0 m 22 ls [.int t0]) := by
  exact x_iret C rfl rfl hW hZ hkm hE dX9_byteAt_22
set_option maxRecDepth 20000 in
theorem bX9_byteAt_21 {p : Program} {l : Launch} {e : Env} {s : State} {m : MethodId} {args : Array Value} {below : List Frame} {meth : Method} {c : Code} {X : Ec} {h0 : Hp} {o : Int32 × Hp} (C : Cx X p s m args meth c RX9 cX9_byteAt 2 (some .int) "byteAt") {h : Hp} {H : Heap} {locs : List Loc} (hkm : Km h0 h) (hW : Wx X h H) (hZ : va_S (aA (eB X)) s.heap H locs) (ls : Array Slot) (hl : lv_has ls 2 []) (hE : sX9_byteAt_21 h  = some o) : W p l e (rm 0 0) s m args below meth c H locs 0 0 (MQ below (QI X h0 o.1 o.2) args s 0 0 (aA (eB X))) (F0 m 21 ls []) := by
  refine lv_iconst (v := (-1 : Int32)) C.1 C.2.1 dX9_byteAt_21 (by decide) ?_
  exact bX9_byteAt_22 C hkm hW hZ _ (lv_sub hl [] rfl) hE
set_option maxRecDepth 20000 in
theorem ct_X9_byteAt (l : Launch) (X : Ec) {h : Hp} {x0 : Nat} {x1 : Int32} {o : Int32 × Hp} (k_x0 : hK h x0 = 9) (hE : sX9_byteAt h x0 x1 = some o) : MetI l yX9_byteAt cX9_byteAt 2 (some .int) 0 0 X [.ref x0, .int x1] h o := by
  refine x_met (by decide) (Nat.le_of_ble_eq_true rfl) ?_
  intro p e s m below meth c ls C hl hW hZ
  have hl : lv_has ls 2 [(0, .ref x0), (1, .int x1)] := hl
  have hkm : Km h h := Km.rf h
  refine lv_iload_n C.1 C.2.1 dX9_byteAt_0 rfl (lv_at hl 1 rfl) ?_
  refine lv_if_lt (tgt := 21) C.1 C.2.1 dX9_byteAt_1 (by decide) (fun c_1 => ?_) (fun c_1 => ?_)
  · have hE := br_p hE c_1
    exact bX9_byteAt_21 C hkm hW hZ _ (lv_sub hl [] rfl) hE
  · have hE := br_n hE c_1
    refine lv_iload_n C.1 C.2.1 dX9_byteAt_4 rfl (lv_at hl 1 rfl) ?_
    refine lv_aload_n C.1 C.2.1 dX9_byteAt_5 rfl (lv_at hl 0 rfl) ?_
    refine gf_X9_21 C hW k_x0 dX9_byteAt_6 ?_
    refine lv_icmp_ge (tgt := 21) C.1 C.2.1 dX9_byteAt_9 (by decide) (fun c_2 => ?_) (fun c_2 => ?_)
    · have hE := br_p hE c_2
      exact bX9_byteAt_21 C hkm hW hZ _ (lv_sub hl [] rfl) hE
    · have hE := br_n hE c_2
      refine lv_aload_n C.1 C.2.1 dX9_byteAt_12 rfl (lv_at hl 0 rfl) ?_
      obtain ⟨r_3, er_3, hE⟩ := cl_e hE
      refine gf_X9_15 C hW k_x0 er_3 dX9_byteAt_13 (fun k_r_3 => ?_)
      refine lv_iload_n C.1 C.2.1 dX9_byteAt_16 rfl (lv_at hl 1 rfl) ?_
      obtain ⟨g_4, hE⟩ := gd_e hE
      refine y_iald C hW k_r_3 g_4 dX9_byteAt_17 ?_
      refine lv_goto (tgt := 22) C.1 C.2.1 dX9_byteAt_18 (by decide) ?_
      exact bX9_byteAt_22 C hkm hW hZ _ (lv_sub hl [] rfl) hE
theorem dX9_clear_0 : decode cX9_clear 0 = .ok (.aload_n 0, 1) := by decide +kernel
theorem dX9_clear_1 : decode cX9_clear 1 = .ok (.iconst 0, 1) := by decide +kernel
theorem dX9_clear_2 : decode cX9_clear 2 = .ok (.putfield 21, 3) := by decide +kernel
theorem dX9_clear_5 : decode cX9_clear 5 = .ok (.return_, 1) := by decide +kernel
set_option maxRecDepth 20000 in
theorem moX9_clear {o : Hp} {h : Hp} {x0 : Nat} (hE : sX9_clear h x0 = some o) : Le h o := by
  obtain ⟨h_1, eh_1, hE⟩ := nm_e2 hE
  refine (le_I eh_1).tr ?_
  exact le_some1 hE
set_option maxRecDepth 20000 in
theorem ct_X9_clear (l : Launch) (X : Ec) {h : Hp} {x0 : Nat} {o : Hp} (k_x0 : hK h x0 = 9) (hE : sX9_clear h x0 = some o) : MetV l yX9_clear cX9_clear 1 none 0 0 X [.ref x0] h o := by
  refine x_met (by decide) (Nat.le_of_ble_eq_true rfl) ?_
  intro p e s m below meth c ls C hl hW hZ
  have hl : lv_has ls 1 [(0, .ref x0)] := hl
  have hkm : Km h h := Km.rf h
  refine lv_aload_n C.1 C.2.1 dX9_clear_0 rfl (lv_at hl 0 rfl) ?_
  refine lv_iconst (v := (0 : Int32)) C.1 C.2.1 dX9_clear_1 (by decide) ?_
  obtain ⟨h_1, eh_1, hE⟩ := nm_e2 hE
  refine pf_X9_21 C hW hZ k_x0 eh_1 dX9_clear_2 (fun _ _ hW km hZ => ?_)
  replace hkm := hkm.tr km
  replace k_x0 := km.at k_x0 (by decide)
  exact x_vret C rfl hW hZ hkm hE dX9_clear_5
theorem dX9_appendNumber_0 : decode cX9_appendNumber 0 = .ok (.aload_n 0, 1) := by decide +kernel
theorem dX9_appendNumber_1 : decode cX9_appendNumber 1 = .ok (.iload_n 1, 1) := by decide +kernel
theorem dX9_appendNumber_2 : decode cX9_appendNumber 2 = .ok (.bipush 24, 2) := by decide +kernel
theorem dX9_appendNumber_4 : decode cX9_appendNumber 4 = .ok (.iushr, 1) := by decide +kernel
theorem dX9_appendNumber_5 : decode cX9_appendNumber 5 = .ok (.invokevirtual 25, 3) := by decide +kernel
theorem dX9_appendNumber_8 : decode cX9_appendNumber 8 = .ok (.aload_n 0, 1) := by decide +kernel
theorem dX9_appendNumber_9 : decode cX9_appendNumber 9 = .ok (.iload_n 1, 1) := by decide +kernel
theorem dX9_appendNumber_10 : decode cX9_appendNumber 10 = .ok (.bipush 16, 2) := by decide +kernel
theorem dX9_appendNumber_12 : decode cX9_appendNumber 12 = .ok (.iushr, 1) := by decide +kernel
theorem dX9_appendNumber_13 : decode cX9_appendNumber 13 = .ok (.invokevirtual 25, 3) := by decide +kernel
theorem dX9_appendNumber_16 : decode cX9_appendNumber 16 = .ok (.aload_n 0, 1) := by decide +kernel
theorem dX9_appendNumber_17 : decode cX9_appendNumber 17 = .ok (.iload_n 1, 1) := by decide +kernel
theorem dX9_appendNumber_18 : decode cX9_appendNumber 18 = .ok (.bipush 8, 2) := by decide +kernel
theorem dX9_appendNumber_20 : decode cX9_appendNumber 20 = .ok (.iushr, 1) := by decide +kernel
theorem dX9_appendNumber_21 : decode cX9_appendNumber 21 = .ok (.invokevirtual 25, 3) := by decide +kernel
theorem dX9_appendNumber_24 : decode cX9_appendNumber 24 = .ok (.aload_n 0, 1) := by decide +kernel
theorem dX9_appendNumber_25 : decode cX9_appendNumber 25 = .ok (.iload_n 1, 1) := by decide +kernel
theorem dX9_appendNumber_26 : decode cX9_appendNumber 26 = .ok (.invokevirtual 25, 3) := by decide +kernel
theorem dX9_appendNumber_29 : decode cX9_appendNumber 29 = .ok (.return_, 1) := by decide +kernel
set_option maxRecDepth 20000 in
theorem moX9_appendNumber {o : Hp} {h : Hp} {x0 : Nat} {x1 : Int32} (hE : sX9_appendNumber h x0 x1 = some o) : Le h o := by
  obtain ⟨o_1, eo_1, hE⟩ := cl_e hE
  refine (moX9_append eo_1).tr ?_
  obtain ⟨o_2, eo_2, hE⟩ := cl_e hE
  refine (moX9_append eo_2).tr ?_
  obtain ⟨o_3, eo_3, hE⟩ := cl_e hE
  refine (moX9_append eo_3).tr ?_
  obtain ⟨o_4, eo_4, hE⟩ := cl_e hE
  refine (moX9_append eo_4).tr ?_
  exact le_some1 hE
set_option maxRecDepth 20000 in
theorem ct_X9_appendNumber (l : Launch) (X : Ec) {h : Hp} {x0 : Nat} {x1 : Int32} {o : Hp} (k_x0 : hK h x0 = 9) (hE : sX9_appendNumber h x0 x1 = some o) : MetV l yX9_appendNumber cX9_appendNumber 2 none 1 21 X [.ref x0, .int x1] h o := by
  refine x_met (by decide) (Nat.le_of_ble_eq_true rfl) ?_
  intro p e s m below meth c ls C hl hW hZ
  have hl : lv_has ls 2 [(0, .ref x0), (1, .int x1)] := hl
  have hkm : Km h h := Km.rf h
  refine lv_aload_n C.1 C.2.1 dX9_appendNumber_0 rfl (lv_at hl 0 rfl) ?_
  refine lv_iload_n C.1 C.2.1 dX9_appendNumber_1 rfl (lv_at hl 1 rfl) ?_
  refine lv_bipush (v := (24 : Int32)) C.1 C.2.1 dX9_appendNumber_2 (by decide) ?_
  refine lv_iushr C.1 C.2.1 dX9_appendNumber_4 rfl ?_
  obtain ⟨o_1, eo_1, hE⟩ := cl_e hE
  refine x_kV (o := o_1) (z_runV (As := [.int ((x1.toUInt32 >>> ((24 : Int32).toUInt32 &&& Int32.toUInt32 31)).toInt32)]) (rest := []) C (ct_X9_append l X k_x0 eo_1) cw_X9_25 hW hZ k_x0 (by decide) rfl rfl rfl hl.1 (Nat.le_of_ble_eq_true rfl) rfl dX9_appendNumber_5 ⟨Nat.le_of_ble_eq_true rfl, Nat.le_of_ble_eq_true rfl⟩ ⟨Nat.le_refl _, Nat.le_refl _⟩) hZ (fun _ _ hW km hZ => ?_)
  replace hkm := hkm.tr km
  replace k_x0 := km.at k_x0 (by decide)
  refine lv_aload_n C.1 C.2.1 dX9_appendNumber_8 rfl (lv_at hl 0 rfl) ?_
  refine lv_iload_n C.1 C.2.1 dX9_appendNumber_9 rfl (lv_at hl 1 rfl) ?_
  refine lv_bipush (v := (16 : Int32)) C.1 C.2.1 dX9_appendNumber_10 (by decide) ?_
  refine lv_iushr C.1 C.2.1 dX9_appendNumber_12 rfl ?_
  obtain ⟨o_2, eo_2, hE⟩ := cl_e hE
  refine x_kV (o := o_2) (z_runV (As := [.int ((x1.toUInt32 >>> ((16 : Int32).toUInt32 &&& Int32.toUInt32 31)).toInt32)]) (rest := []) C (ct_X9_append l X k_x0 eo_2) cw_X9_25 hW hZ k_x0 (by decide) rfl rfl rfl hl.1 (Nat.le_of_ble_eq_true rfl) rfl dX9_appendNumber_13 ⟨Nat.le_of_ble_eq_true rfl, Nat.le_of_ble_eq_true rfl⟩ ⟨Nat.le_refl _, Nat.le_refl _⟩) hZ (fun _ _ hW km hZ => ?_)
  replace hkm := hkm.tr km
  replace k_x0 := km.at k_x0 (by decide)
  refine lv_aload_n C.1 C.2.1 dX9_appendNumber_16 rfl (lv_at hl 0 rfl) ?_
  refine lv_iload_n C.1 C.2.1 dX9_appendNumber_17 rfl (lv_at hl 1 rfl) ?_
  refine lv_bipush (v := (8 : Int32)) C.1 C.2.1 dX9_appendNumber_18 (by decide) ?_
  refine lv_iushr C.1 C.2.1 dX9_appendNumber_20 rfl ?_
  obtain ⟨o_3, eo_3, hE⟩ := cl_e hE
  refine x_kV (o := o_3) (z_runV (As := [.int ((x1.toUInt32 >>> ((8 : Int32).toUInt32 &&& Int32.toUInt32 31)).toInt32)]) (rest := []) C (ct_X9_append l X k_x0 eo_3) cw_X9_25 hW hZ k_x0 (by decide) rfl rfl rfl hl.1 (Nat.le_of_ble_eq_true rfl) rfl dX9_appendNumber_21 ⟨Nat.le_of_ble_eq_true rfl, Nat.le_of_ble_eq_true rfl⟩ ⟨Nat.le_refl _, Nat.le_refl _⟩) hZ (fun _ _ hW km hZ => ?_)
  replace hkm := hkm.tr km
  replace k_x0 := km.at k_x0 (by decide)
  refine lv_aload_n C.1 C.2.1 dX9_appendNumber_24 rfl (lv_at hl 0 rfl) ?_
  refine lv_iload_n C.1 C.2.1 dX9_appendNumber_25 rfl (lv_at hl 1 rfl) ?_
  obtain ⟨o_4, eo_4, hE⟩ := cl_e hE
  refine x_kV (o := o_4) (z_runV (As := [.int x1]) (rest := []) C (ct_X9_append l X k_x0 eo_4) cw_X9_25 hW hZ k_x0 (by decide) rfl rfl rfl hl.1 (Nat.le_of_ble_eq_true rfl) rfl dX9_appendNumber_26 ⟨Nat.le_of_ble_eq_true rfl, Nat.le_of_ble_eq_true rfl⟩ ⟨Nat.le_refl _, Nat.le_refl _⟩) hZ (fun _ _ hW km hZ => ?_)
  replace hkm := hkm.tr km
  replace k_x0 := km.at k_x0 (by decide)
  exact x_vret C rfl hW hZ hkm hE dX9_appendNumber_29
