set_option maxRecDepth 100000 in
theorem m_264 : Cond.methodLink RX5 3 objectInit ∈ W0 := w0_in (List.mem_append_right _ (List.mem_of_getElem? (i := 264) rfl)) rfl
set_option maxRecDepth 100000 in
theorem m_265 : Cond.classLink RX5 15 RX3 ∈ W0 := w0_in (List.mem_append_right _ (List.mem_of_getElem? (i := 265) rfl)) rfl
set_option maxRecDepth 100000 in
theorem m_266 : Cond.instantiable RX3 11 ∈ W0 := w0_in (List.mem_append_right _ (List.mem_of_getElem? (i := 266) rfl)) rfl
set_option maxRecDepth 100000 in
theorem m_267 : Cond.methodLink RX5 17 yX3_init ∈ W0 := w0_in (List.mem_append_right _ (List.mem_of_getElem? (i := 267) rfl)) rfl
set_option maxRecDepth 100000 in
theorem m_268 : Cond.instanceMethod yX3_init ∈ W0 := w0_in (List.mem_append_right _ (List.mem_of_getElem? (i := 268) rfl)) rfl
set_option maxRecDepth 100000 in
theorem m_269 : Cond.code yX3_init cX3_init 1 none ∈ W0 := w0_in (List.mem_append_right _ (List.mem_of_getElem? (i := 269) rfl)) rfl
set_option maxRecDepth 100000 in
theorem m_344 : Cond.fieldLink RX5 22 (TX5 0).1 (TX5 0).2.1 (TX5 0).2.2.1 ∈ W0 := w0_in (List.mem_append_right _ (List.mem_of_getElem? (i := 344) rfl)) rfl
set_option maxRecDepth 100000 in
theorem m_345 : Cond.fieldLink RX5 26 (TX5 1).1 (TX5 1).2.1 (TX5 1).2.2.1 ∈ W0 := w0_in (List.mem_append_right _ (List.mem_of_getElem? (i := 345) rfl)) rfl
set_option maxRecDepth 100000 in
theorem m_346 : Cond.fieldLink RX5 9 (TX5 2).1 (TX5 2).2.1 (TX5 2).2.2.1 ∈ W0 := w0_in (List.mem_append_right _ (List.mem_of_getElem? (i := 346) rfl)) rfl
set_option maxRecDepth 100000 in
theorem m_348 : Cond.fieldLink RX5 18 (TX5 3).1 (TX5 3).2.1 (TX5 3).2.2.1 ∈ W0 := w0_in (List.mem_append_right _ (List.mem_of_getElem? (i := 348) rfl)) rfl
theorem i_X5 : ∀ w ∈ u_ws RX5 TX5 10, w ∈ W0 := by
  intro w hw
  exact w0_in (List.mem_append_right _ ((by decide +kernel : ∀ w ∈ u_ws RX5 TX5 10, w ∈ tables_1) w hw)) ((by decide +kernel : ∀ w ∈ u_ws RX5 TX5 10, goodWord w = true) w hw)
theorem dv_X3 : ∀ j, j < 11 → defaultValue (tyX3 j) = dV ((tl 3).getD j 2) := by decide +kernel
section
variable {p : Program} {l : Launch} {e : Env} {R : Room} {s : State} {m : MethodId} {args : Array Value} {below : List Frame} {meth : Method} {c : Code} {H : Heap} {locs : List Loc} {cells slots : Nat} {Q : State → Prop}
variable {cc : ByteArray} {pc : Nat} {ls : Array Slot} {rest : List Value} {X : Ec} {h h1 : Hp} {nL : Nat} {rt : Option FieldType} {mn : String}
theorem pf_X5_18 {a r : Nat} (C : Cx X p s m args meth c RX5 cc nL rt mn) (hW : Wx X h H) (hZ : va_S (aA (eB X)) s.heap H locs) (hmn : mn = "<init>") (ha : hK h a = 5) (hr : hK h r = 3) (eh : h1 = wR h a 3 (some r)) (hdg : decode cc pc = .ok (.putfield 18, 3)) (kk : ∀ (H1 : Heap) (locs1 : List Loc), Wx X h1 H1 → Km h h1 → va_S (aA (eB X)) s.heap H1 locs1 → W p l e R s m args below meth c H1 locs1 cells slots Q (F0 m (pc + 3) ls rest)) : W p l e R s m args below meth c H locs cells slots Q (F0 m pc ls (.ref r :: .ref a :: rest)) :=
  y_putrF (ty := .object "GameRules$Position") C hW hZ ha i_X5 tyX5 tyX5_ok nmX5 (by decide) rfl rfl (by decide) m_348 rfl hmn rfl (by decide +kernel) rfl rfl rfl hr rfl (by decide) eh hdg kk
theorem pf_X5_22 {a r : Nat} (C : Cx X p s m args meth c RX5 cc nL rt mn) (hW : Wx X h H) (hZ : va_S (aA (eB X)) s.heap H locs) (hmn : mn = "<init>") (ha : hK h a = 5) (hr : hK h r = 1) (eh : h1 = wR h a 0 (some r)) (hdg : decode cc pc = .ok (.putfield 22, 3)) (kk : ∀ (H1 : Heap) (locs1 : List Loc), Wx X h1 H1 → Km h h1 → va_S (aA (eB X)) s.heap H1 locs1 → W p l e R s m args below meth c H1 locs1 cells slots Q (F0 m (pc + 3) ls rest)) : W p l e R s m args below meth c H locs cells slots Q (F0 m pc ls (.ref r :: .ref a :: rest)) :=
  y_putrF (ty := .object "GameRules$Law") C hW hZ ha i_X5 tyX5 tyX5_ok nmX5 (by decide) rfl rfl (by decide) m_344 rfl hmn rfl (by decide +kernel) rfl rfl rfl hr rfl (by decide) eh hdg kk
theorem pf_X5_26 {a r : Nat} (C : Cx X p s m args meth c RX5 cc nL rt mn) (hW : Wx X h H) (hZ : va_S (aA (eB X)) s.heap H locs) (hmn : mn = "<init>") (ha : hK h a = 5) (hr : hK h r = 10) (eh : h1 = wR h a 1 (some r)) (hdg : decode cc pc = .ok (.putfield 26, 3)) (kk : ∀ (H1 : Heap) (locs1 : List Loc), Wx X h1 H1 → Km h h1 → va_S (aA (eB X)) s.heap H1 locs1 → W p l e R s m args below meth c H1 locs1 cells slots Q (F0 m (pc + 3) ls rest)) : W p l e R s m args below meth c H locs cells slots Q (F0 m pc ls (.ref r :: .ref a :: rest)) :=
  y_putrF (ty := .object "GameRules$Ways") C hW hZ ha i_X5 tyX5 tyX5_ok nmX5 (by decide) rfl rfl (by decide) m_345 rfl hmn rfl (by decide +kernel) rfl rfl rfl hr rfl (by decide) eh hdg kk
theorem pf_X5_9 {a r : Nat} (C : Cx X p s m args meth c RX5 cc nL rt mn) (hW : Wx X h H) (hZ : va_S (aA (eB X)) s.heap H locs) (hmn : mn = "<init>") (ha : hK h a = 5) (hr : hK h r = 17) (eh : h1 = wR h a 2 (some r)) (hdg : decode cc pc = .ok (.putfield 9, 3)) (kk : ∀ (H1 : Heap) (locs1 : List Loc), Wx X h1 H1 → Km h h1 → va_S (aA (eB X)) s.heap H1 locs1 → W p l e R s m args below meth c H1 locs1 cells slots Q (F0 m (pc + 3) ls rest)) : W p l e R s m args below meth c H locs cells slots Q (F0 m pc ls (.ref r :: .ref a :: rest)) :=
  y_putrF (ty := .array .int) C hW hZ ha i_X5 tyX5 tyX5_ok nmX5 (by decide) rfl rfl (by decide) m_346 rfl hmn rfl (by decide +kernel) rfl rfl rfl hr rfl (by decide) eh hdg kk
end
theorem ci_X5_17 : cwi RX5 17 yX3_init cX3_init 1 0 := ⟨m_269, m_267, m_8, m_268, rfl, by decide, by decide, by decide +kernel⟩
theorem dX5_init_0 : decode cX5_init 0 = .ok (.aload_n 0, 1) := by decide +kernel
theorem dX5_init_1 : decode cX5_init 1 = .ok (.invokespecial 3, 3) := by decide +kernel
theorem dX5_init_4 : decode cX5_init 4 = .ok (.aload_n 0, 1) := by decide +kernel
theorem dX5_init_5 : decode cX5_init 5 = .ok (.sipush 4096, 3) := by decide +kernel
theorem dX5_init_8 : decode cX5_init 8 = .ok (.newarray .int, 2) := by decide +kernel
theorem dX5_init_10 : decode cX5_init 10 = .ok (.putfield 9, 3) := by decide +kernel
theorem dX5_init_13 : decode cX5_init 13 = .ok (.aload_n 0, 1) := by decide +kernel
theorem dX5_init_14 : decode cX5_init 14 = .ok (.new 15, 3) := by decide +kernel
theorem dX5_init_17 : decode cX5_init 17 = .ok (.dup, 1) := by decide +kernel
theorem dX5_init_18 : decode cX5_init 18 = .ok (.invokespecial 17, 3) := by decide +kernel
theorem dX5_init_21 : decode cX5_init 21 = .ok (.putfield 18, 3) := by decide +kernel
theorem dX5_init_24 : decode cX5_init 24 = .ok (.aload_n 0, 1) := by decide +kernel
theorem dX5_init_25 : decode cX5_init 25 = .ok (.aload_n 1, 1) := by decide +kernel
theorem dX5_init_26 : decode cX5_init 26 = .ok (.putfield 22, 3) := by decide +kernel
theorem dX5_init_29 : decode cX5_init 29 = .ok (.aload_n 0, 1) := by decide +kernel
theorem dX5_init_30 : decode cX5_init 30 = .ok (.aload_n 2, 1) := by decide +kernel
theorem dX5_init_31 : decode cX5_init 31 = .ok (.putfield 26, 3) := by decide +kernel
theorem dX5_init_34 : decode cX5_init 34 = .ok (.return_, 1) := by decide +kernel
set_option maxRecDepth 20000 in
theorem moX5_init_21 {o : Hp} {F : Nat} {h : Hp} {x0 : Nat} {x1 : Nat} {x2 : Nat} {t0 : Nat} {t1 : Nat} (hE : sX5_init_21 F h x0 x1 x2 t0 t1 = some o) : Le h o := by
  obtain ⟨h_1, eh_1, hE⟩ := nm_e2 hE
  refine (le_R eh_1).tr ?_
  obtain ⟨h_2, eh_2, hE⟩ := nm_e2 hE
  refine (le_R eh_2).tr ?_
  obtain ⟨h_3, eh_3, hE⟩ := nm_e2 hE
  refine (le_R eh_3).tr ?_
  exact le_some1 hE
set_option maxRecDepth 20000 in
theorem moX5_init_17 {o : Hp} {F : Nat} {h : Hp} {x0 : Nat} {x1 : Nat} {x2 : Nat} {t0 : Nat} {t1 : Nat} (hE : sX5_init_17 F h x0 x1 x2 t0 t1 = some o) : Le h o := by
  obtain ⟨o_1, eo_1, hE⟩ := cl_e hE
  refine (moX3_init eo_1).tr ?_
  exact moX5_init_21 hE
set_option maxRecDepth 20000 in
theorem moX5_init_10 {o : Hp} {F : Nat} {h : Hp} {x0 : Nat} {x1 : Nat} {x2 : Nat} {t0 : Nat} {t1 : Nat} (hE : sX5_init_10 F h x0 x1 x2 t0 t1 = some o) : Le h o := by
  obtain ⟨h_1, eh_1, hE⟩ := nm_e2 hE
  refine (le_R eh_1).tr ?_
  obtain ⟨a_2, ea_2, hE⟩ := nm_e2 hE
  obtain ⟨h_3, eh_3, hE⟩ := nm_e2 hE
  refine (le_C eh_3).tr ?_
  exact moX5_init_17 hE
set_option maxRecDepth 20000 in
theorem moX5_init {o : Hp} {F : Nat} {h : Hp} {x0 : Nat} {x1 : Nat} {x2 : Nat} (hE : sX5_init F h x0 x1 x2 = some o) : Le h o := by
  obtain ⟨a_1, ea_1, hE⟩ := nm_e2 hE
  obtain ⟨h_2, eh_2, hE⟩ := nm_e2 hE
  refine (le_C eh_2).tr ?_
  exact moX5_init_10 hE
set_option maxRecDepth 20000 in
theorem bX5_init_21 {p : Program} {l : Launch} {e : Env} {s : State} {m : MethodId} {args : Array Value} {below : List Frame} {meth : Method} {c : Code} {X : Ec} {h0 : Hp} {o : Hp} {F : Nat} (C : Cx X p s m args meth c RX5 cX5_init 3 none "<init>") {h : Hp} {x0 : Nat} {x1 : Nat} {x2 : Nat} {t0 : Nat} {t1 : Nat} {H : Heap} {locs : List Loc} (k_x0 : hK h x0 = 5) (k_x1 : hK h x1 = 1) (k_x2 : hK h x2 = 10) (k_t0 : hK h t0 = 3) (k_t1 : hK h t1 = 5) (hkl : Kl h0 h) (hW : Wx X h H) (hZ : va_S (aA (eB X)) s.heap H locs) (ls : Array Slot) (hl : lv_has ls 3 [(0, .ref x0), (1, .ref x1), (2, .ref x2)]) (hE : sX5_init_21 F h x0 x1 x2 t0 t1 = some o) : W p l e (rmA 2 43 h0 o) s m args below meth c H locs (hS h - hS h0) (hL h - hL h0) (MQ below (QVA X h0 o) args s (hS o - hS h0) (hL o - hL h0) (aA (eB X))) (F0 m 21 ls [.ref t0, .ref t1]) := by
  obtain ⟨h_1, eh_1, hE⟩ := nm_e2 hE
  refine pf_X5_18 C hW hZ rfl k_t1 k_t0 eh_1 dX5_init_21 (fun _ _ hW km hZ => ?_)
  replace hkl := hkl.tr km.l
  refine x_wc km ?_
  replace k_x0 := km.at k_x0 (by decide)
  replace k_x1 := km.at k_x1 (by decide)
  replace k_x2 := km.at k_x2 (by decide)
  refine lv_aload_n C.1 C.2.1 dX5_init_24 rfl (lv_at hl 0 rfl) ?_
  refine lv_aload_n C.1 C.2.1 dX5_init_25 rfl (lv_at hl 1 rfl) ?_
  obtain ⟨h_2, eh_2, hE⟩ := nm_e2 hE
  refine pf_X5_22 C hW hZ rfl k_x0 k_x1 eh_2 dX5_init_26 (fun _ _ hW km hZ => ?_)
  replace hkl := hkl.tr km.l
  refine x_wc km ?_
  replace k_x0 := km.at k_x0 (by decide)
  replace k_x1 := km.at k_x1 (by decide)
  replace k_x2 := km.at k_x2 (by decide)
  refine lv_aload_n C.1 C.2.1 dX5_init_29 rfl (lv_at hl 0 rfl) ?_
  refine lv_aload_n C.1 C.2.1 dX5_init_30 rfl (lv_at hl 2 rfl) ?_
  obtain ⟨h_3, eh_3, hE⟩ := nm_e2 hE
  refine pf_X5_26 C hW hZ rfl k_x0 k_x2 eh_3 dX5_init_31 (fun _ _ hW km hZ => ?_)
  replace hkl := hkl.tr km.l
  refine x_wc km ?_
  replace k_x0 := km.at k_x0 (by decide)
  replace k_x1 := km.at k_x1 (by decide)
  replace k_x2 := km.at k_x2 (by decide)
  exact x_vretA C rfl hW hZ hkl hE dX5_init_34
set_option maxRecDepth 20000 in
theorem bX5_init_17 {p : Program} {l : Launch} {e : Env} {s : State} {m : MethodId} {args : Array Value} {below : List Frame} {meth : Method} {c : Code} {X : Ec} {h0 : Hp} {o : Hp} {F : Nat} (C : Cx X p s m args meth c RX5 cX5_init 3 none "<init>") {h : Hp} {x0 : Nat} {x1 : Nat} {x2 : Nat} {t0 : Nat} {t1 : Nat} {H : Heap} {locs : List Loc} (k_x0 : hK h x0 = 5) (k_x1 : hK h x1 = 1) (k_x2 : hK h x2 = 10) (k_t0 : hK h t0 = 3) (k_t1 : hK h t1 = 5) (hkl : Kl h0 h) (hW : Wx X h H) (hZ : va_S (aA (eB X)) s.heap H locs) (ls : Array Slot) (hl : lv_has ls 3 [(0, .ref x0), (1, .ref x1), (2, .ref x2)]) (hE : sX5_init_17 F h x0 x1 x2 t0 t1 = some o) : W p l e (rmA 2 43 h0 o) s m args below meth c H locs (hS h - hS h0) (hL h - hL h0) (MQ below (QVA X h0 o) args s (hS o - hS h0) (hL o - hL h0) (aA (eB X))) (F0 m 17 ls [.ref t0, .ref t1]) := by
  refine lv_dup C.1 C.2.1 dX5_init_17 rfl ?_
  obtain ⟨o_1, eo_1, hE⟩ := cl_e hE
  have m1 := moX3_init eo_1
  have m2 := moX5_init_21 hE
  refine x_kVA (o := o_1) hkl (z_runI (As := []) (rest := [.ref t0, .ref t1]) C (ct_X3_init l X F k_t0 eo_1) ci_X5_17 hW hZ rfl hl.1 (Nat.le_of_ble_eq_true rfl) rfl dX5_init_18 ⟨Nat.le_of_ble_eq_true rfl, Nat.le_of_ble_eq_true rfl⟩ (rm_ok hkl m1 m2)) hZ (fun _ _ hW km hZ => ?_)
  replace hkl := hkl.tr km
  replace k_x0 := km.at k_x0 (by decide)
  replace k_x1 := km.at k_x1 (by decide)
  replace k_x2 := km.at k_x2 (by decide)
  replace k_t0 := km.at k_t0 (by decide)
  replace k_t1 := km.at k_t1 (by decide)
  exact bX5_init_21 C k_x0 k_x1 k_x2 k_t0 k_t1 hkl hW hZ _ (lv_sub hl [0, 1, 2] rfl) hE
set_option maxRecDepth 20000 in
theorem bX5_init_10 {p : Program} {l : Launch} {e : Env} {s : State} {m : MethodId} {args : Array Value} {below : List Frame} {meth : Method} {c : Code} {X : Ec} {h0 : Hp} {o : Hp} {F : Nat} (C : Cx X p s m args meth c RX5 cX5_init 3 none "<init>") {h : Hp} {x0 : Nat} {x1 : Nat} {x2 : Nat} {t0 : Nat} {t1 : Nat} {H : Heap} {locs : List Loc} (k_x0 : hK h x0 = 5) (k_x1 : hK h x1 = 1) (k_x2 : hK h x2 = 10) (k_t0 : hK h t0 = 17) (k_t1 : hK h t1 = 5) (hkl : Kl h0 h) (hW : Wx X h H) (hZ : va_S (aA (eB X)) s.heap H locs) (ls : Array Slot) (hl : lv_has ls 3 [(0, .ref x0), (1, .ref x1), (2, .ref x2)]) (hE : sX5_init_10 F h x0 x1 x2 t0 t1 = some o) : W p l e (rmA 2 43 h0 o) s m args below meth c H locs (hS h - hS h0) (hL h - hL h0) (MQ below (QVA X h0 o) args s (hS o - hS h0) (hL o - hL h0) (aA (eB X))) (F0 m 10 ls [.ref t0, .ref t1]) := by
  obtain ⟨h_1, eh_1, hE⟩ := nm_e2 hE
  refine pf_X5_9 C hW hZ rfl k_t1 k_t0 eh_1 dX5_init_10 (fun _ _ hW km hZ => ?_)
  replace hkl := hkl.tr km.l
  refine x_wc km ?_
  replace k_x0 := km.at k_x0 (by decide)
  replace k_x1 := km.at k_x1 (by decide)
  replace k_x2 := km.at k_x2 (by decide)
  refine lv_aload_n C.1 C.2.1 dX5_init_13 rfl (lv_at hl 0 rfl) ?_
  obtain ⟨a_2, ea_2, hE⟩ := nm_e2 hE
  obtain ⟨h_3, eh_3, hE⟩ := nm_e2 hE
  refine y_new C hW hZ hkl (moX5_init_17 hE) ⟨rfl, rfl⟩ i_X3 tyX3 tyX3_ok (by decide) rfl rfl dv_X3 m_265 m_266 m_8 eh_3 dX5_init_14 (fun _ hW km k_a_2 hZ => ?_)
  replace hkl := hkl.tr km
  refine x_nmA ea_2 ?_
  rw [← ea_2] at k_a_2
  replace k_x0 := km.at k_x0 (by decide)
  replace k_x1 := km.at k_x1 (by decide)
  replace k_x2 := km.at k_x2 (by decide)
  exact bX5_init_17 C k_x0 k_x1 k_x2 k_a_2 k_x0 hkl hW hZ _ (lv_sub hl [0, 1, 2] rfl) hE
set_option maxRecDepth 20000 in
theorem ct_X5_init (l : Launch) (X : Ec) (F : Nat) {h : Hp} {x0 : Nat} {x1 : Nat} {x2 : Nat} {o : Hp} (k_x0 : hK h x0 = 5) (k_x1 : hK h x1 = 1) (k_x2 : hK h x2 = 10) (hE : sX5_init F h x0 x1 x2 = some o) : MetVA l yX5_init cX5_init 3 none 2 43 X [.ref x0, .ref x1, .ref x2] h o := by
  refine x_metA (oh := o) (by decide) (Nat.le_of_ble_eq_true rfl) ?_
  intro p e s m below meth c ls C hl hW hZ
  have hl : lv_has ls 3 [(0, .ref x0), (1, .ref x1), (2, .ref x2)] := hl
  have hkl : Kl h h := Kl.rf h
  refine lv_aload_n C.1 C.2.1 dX5_init_0 rfl (lv_at hl 0 rfl) ?_
  refine W.objInit C.1 C.2.1 C.2.2.2.1 (C.2.2.2.2.1 _ m_264) (C.2.2.2.2.1 _ m_32) (C.2.2.2.2.1 _ m_33) rfl (by rw [C.2.2.1]; exact hl.1) rfl dX5_init_1 (Nat.le_of_ble_eq_true rfl) (Nat.le_of_ble_eq_true rfl) ?_
  refine W.eq (g2 := F0 m 4 ls []) rfl ?_
  refine lv_aload_n C.1 C.2.1 dX5_init_4 rfl (lv_at hl 0 rfl) ?_
  refine lv_sipush (v := (4096 : Int32)) C.1 C.2.1 dX5_init_5 (by decide) ?_
  obtain ⟨a_1, ea_1, hE⟩ := nm_e2 hE
  obtain ⟨h_2, eh_2, hE⟩ := nm_e2 hE
  refine y_newa (k := 17) (ty := .int) (t0 := 1) C hW hZ hkl (moX5_init_10 hE) ⟨rfl, rfl⟩ (by decide) (by decide) rfl rfl (by intro C hC; cases hC) hdef_17 m_54 (by decide) (by decide) eh_2 dX5_init_8 (fun _ hW km k_a_1 hZ => ?_)
  replace hkl := hkl.tr km
  refine x_nmA ea_1 ?_
  rw [← ea_1] at k_a_1
  replace k_x0 := km.at k_x0 (by decide)
  replace k_x1 := km.at k_x1 (by decide)
  replace k_x2 := km.at k_x2 (by decide)
  exact bX5_init_10 C k_x0 k_x1 k_x2 k_a_1 k_x0 hkl hW hZ _ (lv_sub hl [0, 1, 2] rfl) hE
set_option maxRecDepth 100000 in
theorem m_381 : Cond.methodLink RX7 3 objectInit ∈ W0 := w0_in (List.mem_append_right _ (List.mem_of_getElem? (i := 381) rfl)) rfl
set_option maxRecDepth 100000 in
theorem m_382 : Cond.fieldLink RX7 9 (TX7 0).1 (TX7 0).2.1 (TX7 0).2.2.1 ∈ W0 := w0_in (List.mem_append_right _ (List.mem_of_getElem? (i := 382) rfl)) rfl
theorem i_X7 : ∀ w ∈ u_ws RX7 TX7 3, w ∈ W0 := by
  intro w hw
  exact w0_in (List.mem_append_right _ ((by decide +kernel : ∀ w ∈ u_ws RX7 TX7 3, w ∈ tables_1) w hw)) ((by decide +kernel : ∀ w ∈ u_ws RX7 TX7 3, goodWord w = true) w hw)
section
variable {p : Program} {l : Launch} {e : Env} {R : Room} {s : State} {m : MethodId} {args : Array Value} {below : List Frame} {meth : Method} {c : Code} {H : Heap} {locs : List Loc} {cells slots : Nat} {Q : State → Prop}
variable {cc : ByteArray} {pc : Nat} {ls : Array Slot} {rest : List Value} {X : Ec} {h h1 : Hp} {nL : Nat} {rt : Option FieldType} {mn : String}
theorem pf_X7_9 {a r : Nat} (C : Cx X p s m args meth c RX7 cc nL rt mn) (hW : Wx X h H) (hZ : va_S (aA (eB X)) s.heap H locs) (hmn : mn = "<init>") (ha : hK h a = 7) (hr : hK h r = 1) (eh : h1 = wR h a 0 (some r)) (hdg : decode cc pc = .ok (.putfield 9, 3)) (kk : ∀ (H1 : Heap) (locs1 : List Loc), Wx X h1 H1 → Km h h1 → va_S (aA (eB X)) s.heap H1 locs1 → W p l e R s m args below meth c H1 locs1 cells slots Q (F0 m (pc + 3) ls rest)) : W p l e R s m args below meth c H locs cells slots Q (F0 m pc ls (.ref r :: .ref a :: rest)) :=
  y_putrF (ty := .object "GameRules$Law") C hW hZ ha i_X7 tyX7 tyX7_ok nmX7 (by decide) rfl rfl (by decide) m_382 rfl hmn rfl (by decide +kernel) rfl rfl rfl hr rfl (by decide) eh hdg kk
end
theorem dX7_init_0 : decode cX7_init 0 = .ok (.aload_n 0, 1) := by decide +kernel
theorem dX7_init_1 : decode cX7_init 1 = .ok (.invokespecial 3, 3) := by decide +kernel
theorem dX7_init_4 : decode cX7_init 4 = .ok (.aload_n 0, 1) := by decide +kernel
theorem dX7_init_5 : decode cX7_init 5 = .ok (.aload_n 1, 1) := by decide +kernel
theorem dX7_init_6 : decode cX7_init 6 = .ok (.putfield 9, 3) := by decide +kernel
theorem dX7_init_9 : decode cX7_init 9 = .ok (.return_, 1) := by decide +kernel
set_option maxRecDepth 20000 in
theorem moX7_init {o : Hp} {h : Hp} {x0 : Nat} {x1 : Nat} (hE : sX7_init h x0 x1 = some o) : Le h o := by
  obtain ⟨h_1, eh_1, hE⟩ := nm_e2 hE
  refine (le_R eh_1).tr ?_
  exact le_some1 hE
set_option maxRecDepth 20000 in
theorem ct_X7_init (l : Launch) (X : Ec) {h : Hp} {x0 : Nat} {x1 : Nat} {o : Hp} (k_x0 : hK h x0 = 7) (k_x1 : hK h x1 = 1) (hE : sX7_init h x0 x1 = some o) : MetV l yX7_init cX7_init 2 none 1 20 X [.ref x0, .ref x1] h o := by
  refine x_met (by decide) (Nat.le_of_ble_eq_true rfl) ?_
  intro p e s m below meth c ls C hl hW hZ
  have hl : lv_has ls 2 [(0, .ref x0), (1, .ref x1)] := hl
  have hkm : Km h h := Km.rf h
  refine lv_aload_n C.1 C.2.1 dX7_init_0 rfl (lv_at hl 0 rfl) ?_
  refine W.objInit C.1 C.2.1 C.2.2.2.1 (C.2.2.2.2.1 _ m_381) (C.2.2.2.2.1 _ m_32) (C.2.2.2.2.1 _ m_33) rfl (by rw [C.2.2.1]; exact hl.1) rfl dX7_init_1 (Nat.le_of_ble_eq_true rfl) (Nat.le_of_ble_eq_true rfl) ?_
  refine W.eq (g2 := F0 m 4 ls []) rfl ?_
  refine lv_aload_n C.1 C.2.1 dX7_init_4 rfl (lv_at hl 0 rfl) ?_
  refine lv_aload_n C.1 C.2.1 dX7_init_5 rfl (lv_at hl 1 rfl) ?_
  obtain ⟨h_1, eh_1, hE⟩ := nm_e2 hE
  refine pf_X7_9 C hW hZ rfl k_x0 k_x1 eh_1 dX7_init_6 (fun _ _ hW km hZ => ?_)
  replace hkm := hkm.tr km
  replace k_x0 := km.at k_x0 (by decide)
  replace k_x1 := km.at k_x1 (by decide)
  exact x_vret C rfl hW hZ hkm hE dX7_init_9
set_option maxRecDepth 100000 in
theorem m_35 : Cond.instantiable RX9 2 ∈ W0 := w0_in (List.mem_append_right _ (List.mem_of_getElem? (i := 35) rfl)) rfl
set_option maxRecDepth 100000 in
theorem m_37 : Cond.instanceMethod yX9_init ∈ W0 := w0_in (List.mem_append_right _ (List.mem_of_getElem? (i := 37) rfl)) rfl
set_option maxRecDepth 100000 in
theorem m_38 : Cond.code yX9_init cX9_init 2 none ∈ W0 := w0_in (List.mem_append_right _ (List.mem_of_getElem? (i := 38) rfl)) rfl
set_option maxRecDepth 100000 in
theorem m_397 : Cond.methodLink RX8 3 objectInit ∈ W0 := w0_in (List.mem_append_right _ (List.mem_of_getElem? (i := 397) rfl)) rfl
set_option maxRecDepth 100000 in
theorem m_398 : Cond.classLink RX8 9 RX3 ∈ W0 := w0_in (List.mem_append_right _ (List.mem_of_getElem? (i := 398) rfl)) rfl
set_option maxRecDepth 100000 in
theorem m_399 : Cond.methodLink RX8 11 yX3_init ∈ W0 := w0_in (List.mem_append_right _ (List.mem_of_getElem? (i := 399) rfl)) rfl
set_option maxRecDepth 100000 in
theorem m_400 : Cond.classLink RX8 18 RX9 ∈ W0 := w0_in (List.mem_append_right _ (List.mem_of_getElem? (i := 400) rfl)) rfl
set_option maxRecDepth 100000 in
theorem m_401 : Cond.methodLink RX8 20 yX9_init ∈ W0 := w0_in (List.mem_append_right _ (List.mem_of_getElem? (i := 401) rfl)) rfl
set_option maxRecDepth 100000 in
theorem m_402 : Cond.fieldLink RX8 27 (TX8 0).1 (TX8 0).2.1 (TX8 0).2.2.1 ∈ W0 := w0_in (List.mem_append_right _ (List.mem_of_getElem? (i := 402) rfl)) rfl
set_option maxRecDepth 100000 in
theorem m_403 : Cond.fieldLink RX8 31 (TX8 1).1 (TX8 1).2.1 (TX8 1).2.2.1 ∈ W0 := w0_in (List.mem_append_right _ (List.mem_of_getElem? (i := 403) rfl)) rfl
set_option maxRecDepth 100000 in
theorem m_404 : Cond.fieldLink RX8 12 (TX8 2).1 (TX8 2).2.1 (TX8 2).2.2.1 ∈ W0 := w0_in (List.mem_append_right _ (List.mem_of_getElem? (i := 404) rfl)) rfl
set_option maxRecDepth 100000 in
theorem m_405 : Cond.fieldLink RX8 23 (TX8 3).1 (TX8 3).2.1 (TX8 3).2.2.1 ∈ W0 := w0_in (List.mem_append_right _ (List.mem_of_getElem? (i := 405) rfl)) rfl
theorem i_X8 : ∀ w ∈ u_ws RX8 TX8 4, w ∈ W0 := by
  intro w hw
  exact w0_in (List.mem_append_right _ ((by decide +kernel : ∀ w ∈ u_ws RX8 TX8 4, w ∈ tables_1) w hw)) ((by decide +kernel : ∀ w ∈ u_ws RX8 TX8 4, goodWord w = true) w hw)
theorem dv_X9 : ∀ j, j < 2 → defaultValue (tyX9 j) = dV ((tl 9).getD j 2) := by decide +kernel
section
variable {p : Program} {l : Launch} {e : Env} {R : Room} {s : State} {m : MethodId} {args : Array Value} {below : List Frame} {meth : Method} {c : Code} {H : Heap} {locs : List Loc} {cells slots : Nat} {Q : State → Prop}
variable {cc : ByteArray} {pc : Nat} {ls : Array Slot} {rest : List Value} {X : Ec} {h h1 : Hp} {nL : Nat} {rt : Option FieldType} {mn : String}
theorem pf_X8_23 {a r : Nat} (C : Cx X p s m args meth c RX8 cc nL rt mn) (hW : Wx X h H) (hZ : va_S (aA (eB X)) s.heap H locs) (hmn : mn = "<init>") (ha : hK h a = 8) (hr : hK h r = 9) (eh : h1 = wR h a 3 (some r)) (hdg : decode cc pc = .ok (.putfield 23, 3)) (kk : ∀ (H1 : Heap) (locs1 : List Loc), Wx X h1 H1 → Km h h1 → va_S (aA (eB X)) s.heap H1 locs1 → W p l e R s m args below meth c H1 locs1 cells slots Q (F0 m (pc + 3) ls rest)) : W p l e R s m args below meth c H locs cells slots Q (F0 m pc ls (.ref r :: .ref a :: rest)) :=
  y_putrF (ty := .object "GameRules$Text") C hW hZ ha i_X8 tyX8 tyX8_ok nmX8 (by decide) rfl rfl (by decide) m_405 rfl hmn rfl (by decide +kernel) rfl rfl rfl hr rfl (by decide) eh hdg kk
theorem pf_X8_27 {a r : Nat} (C : Cx X p s m args meth c RX8 cc nL rt mn) (hW : Wx X h H) (hZ : va_S (aA (eB X)) s.heap H locs) (hmn : mn = "<init>") (ha : hK h a = 8) (hr : hK h r = 1) (eh : h1 = wR h a 0 (some r)) (hdg : decode cc pc = .ok (.putfield 27, 3)) (kk : ∀ (H1 : Heap) (locs1 : List Loc), Wx X h1 H1 → Km h h1 → va_S (aA (eB X)) s.heap H1 locs1 → W p l e R s m args below meth c H1 locs1 cells slots Q (F0 m (pc + 3) ls rest)) : W p l e R s m args below meth c H locs cells slots Q (F0 m pc ls (.ref r :: .ref a :: rest)) :=
  y_putrF (ty := .object "GameRules$Law") C hW hZ ha i_X8 tyX8 tyX8_ok nmX8 (by decide) rfl rfl (by decide) m_402 rfl hmn rfl (by decide +kernel) rfl rfl rfl hr rfl (by decide) eh hdg kk
theorem pf_X8_31 {a r : Nat} (C : Cx X p s m args meth c RX8 cc nL rt mn) (hW : Wx X h H) (hZ : va_S (aA (eB X)) s.heap H locs) (hmn : mn = "<init>") (ha : hK h a = 8) (hr : hK h r = 5) (eh : h1 = wR h a 1 (some r)) (hdg : decode cc pc = .ok (.putfield 31, 3)) (kk : ∀ (H1 : Heap) (locs1 : List Loc), Wx X h1 H1 → Km h h1 → va_S (aA (eB X)) s.heap H1 locs1 → W p l e R s m args below meth c H1 locs1 cells slots Q (F0 m (pc + 3) ls rest)) : W p l e R s m args below meth c H locs cells slots Q (F0 m pc ls (.ref r :: .ref a :: rest)) :=
  y_putrF (ty := .object "GameRules$Referee") C hW hZ ha i_X8 tyX8 tyX8_ok nmX8 (by decide) rfl rfl (by decide) m_403 rfl hmn rfl (by decide +kernel) rfl rfl rfl hr rfl (by decide) eh hdg kk
theorem pf_X8_12 {a r : Nat} (C : Cx X p s m args meth c RX8 cc nL rt mn) (hW : Wx X h H) (hZ : va_S (aA (eB X)) s.heap H locs) (hmn : mn = "<init>") (ha : hK h a = 8) (hr : hK h r = 3) (eh : h1 = wR h a 2 (some r)) (hdg : decode cc pc = .ok (.putfield 12, 3)) (kk : ∀ (H1 : Heap) (locs1 : List Loc), Wx X h1 H1 → Km h h1 → va_S (aA (eB X)) s.heap H1 locs1 → W p l e R s m args below meth c H1 locs1 cells slots Q (F0 m (pc + 3) ls rest)) : W p l e R s m args below meth c H locs cells slots Q (F0 m pc ls (.ref r :: .ref a :: rest)) :=
  y_putrF (ty := .object "GameRules$Position") C hW hZ ha i_X8 tyX8 tyX8_ok nmX8 (by decide) rfl rfl (by decide) m_404 rfl hmn rfl (by decide +kernel) rfl rfl rfl hr rfl (by decide) eh hdg kk
end
theorem ci_X8_20 : cwi RX8 20 yX9_init cX9_init 2 1 := ⟨m_38, m_401, m_2, m_37, rfl, by decide, by decide, by decide +kernel⟩
theorem ci_X8_11 : cwi RX8 11 yX3_init cX3_init 1 0 := ⟨m_269, m_399, m_8, m_268, rfl, by decide, by decide, by decide +kernel⟩
theorem dX8_init_0 : decode cX8_init 0 = .ok (.aload_n 0, 1) := by decide +kernel
theorem dX8_init_1 : decode cX8_init 1 = .ok (.invokespecial 3, 3) := by decide +kernel
theorem dX8_init_4 : decode cX8_init 4 = .ok (.aload_n 0, 1) := by decide +kernel
theorem dX8_init_5 : decode cX8_init 5 = .ok (.new 9, 3) := by decide +kernel
theorem dX8_init_8 : decode cX8_init 8 = .ok (.dup, 1) := by decide +kernel
theorem dX8_init_9 : decode cX8_init 9 = .ok (.invokespecial 11, 3) := by decide +kernel
theorem dX8_init_12 : decode cX8_init 12 = .ok (.putfield 12, 3) := by decide +kernel
theorem dX8_init_15 : decode cX8_init 15 = .ok (.aload_n 0, 1) := by decide +kernel
theorem dX8_init_16 : decode cX8_init 16 = .ok (.new 18, 3) := by decide +kernel
theorem dX8_init_19 : decode cX8_init 19 = .ok (.dup, 1) := by decide +kernel
theorem dX8_init_20 : decode cX8_init 20 = .ok (.bipush 16, 2) := by decide +kernel
theorem dX8_init_22 : decode cX8_init 22 = .ok (.invokespecial 20, 3) := by decide +kernel
theorem dX8_init_25 : decode cX8_init 25 = .ok (.putfield 23, 3) := by decide +kernel
theorem dX8_init_28 : decode cX8_init 28 = .ok (.aload_n 0, 1) := by decide +kernel
theorem dX8_init_29 : decode cX8_init 29 = .ok (.aload_n 1, 1) := by decide +kernel
theorem dX8_init_30 : decode cX8_init 30 = .ok (.putfield 27, 3) := by decide +kernel
theorem dX8_init_33 : decode cX8_init 33 = .ok (.aload_n 0, 1) := by decide +kernel
theorem dX8_init_34 : decode cX8_init 34 = .ok (.aload_n 2, 1) := by decide +kernel
theorem dX8_init_35 : decode cX8_init 35 = .ok (.putfield 31, 3) := by decide +kernel
theorem dX8_init_38 : decode cX8_init 38 = .ok (.return_, 1) := by decide +kernel
set_option maxRecDepth 20000 in
theorem moX8_init_25 {o : Hp} {F : Nat} {h : Hp} {x0 : Nat} {x1 : Nat} {x2 : Nat} {t0 : Nat} {t1 : Nat} (hE : sX8_init_25 F h x0 x1 x2 t0 t1 = some o) : Le h o := by
  obtain ⟨h_1, eh_1, hE⟩ := nm_e2 hE
  refine (le_R eh_1).tr ?_
  obtain ⟨h_2, eh_2, hE⟩ := nm_e2 hE
  refine (le_R eh_2).tr ?_
  obtain ⟨h_3, eh_3, hE⟩ := nm_e2 hE
  refine (le_R eh_3).tr ?_
  exact le_some1 hE
set_option maxRecDepth 20000 in
theorem moX8_init_19 {o : Hp} {F : Nat} {h : Hp} {x0 : Nat} {x1 : Nat} {x2 : Nat} {t0 : Nat} {t1 : Nat} (hE : sX8_init_19 F h x0 x1 x2 t0 t1 = some o) : Le h o := by
  obtain ⟨o_1, eo_1, hE⟩ := cl_e hE
  refine (moX9_init eo_1).tr ?_
  exact moX8_init_25 hE
set_option maxRecDepth 20000 in
theorem moX8_init_12 {o : Hp} {F : Nat} {h : Hp} {x0 : Nat} {x1 : Nat} {x2 : Nat} {t0 : Nat} {t1 : Nat} (hE : sX8_init_12 F h x0 x1 x2 t0 t1 = some o) : Le h o := by
  obtain ⟨h_1, eh_1, hE⟩ := nm_e2 hE
  refine (le_R eh_1).tr ?_
  obtain ⟨a_2, ea_2, hE⟩ := nm_e2 hE
  obtain ⟨h_3, eh_3, hE⟩ := nm_e2 hE
  refine (le_C eh_3).tr ?_
  exact moX8_init_19 hE
set_option maxRecDepth 20000 in
theorem moX8_init_8 {o : Hp} {F : Nat} {h : Hp} {x0 : Nat} {x1 : Nat} {x2 : Nat} {t0 : Nat} {t1 : Nat} (hE : sX8_init_8 F h x0 x1 x2 t0 t1 = some o) : Le h o := by
  obtain ⟨o_1, eo_1, hE⟩ := cl_e hE
  refine (moX3_init eo_1).tr ?_
  exact moX8_init_12 hE
set_option maxRecDepth 20000 in
theorem moX8_init {o : Hp} {F : Nat} {h : Hp} {x0 : Nat} {x1 : Nat} {x2 : Nat} (hE : sX8_init F h x0 x1 x2 = some o) : Le h o := by
  obtain ⟨a_1, ea_1, hE⟩ := nm_e2 hE
  obtain ⟨h_2, eh_2, hE⟩ := nm_e2 hE
  refine (le_C eh_2).tr ?_
  exact moX8_init_8 hE
set_option maxRecDepth 20000 in
theorem bX8_init_25 {p : Program} {l : Launch} {e : Env} {s : State} {m : MethodId} {args : Array Value} {below : List Frame} {meth : Method} {c : Code} {X : Ec} {h0 : Hp} {o : Hp} {F : Nat} (C : Cx X p s m args meth c RX8 cX8_init 3 none "<init>") {h : Hp} {x0 : Nat} {x1 : Nat} {x2 : Nat} {t0 : Nat} {t1 : Nat} {H : Heap} {locs : List Loc} (k_x0 : hK h x0 = 8) (k_x1 : hK h x1 = 1) (k_x2 : hK h x2 = 5) (k_t0 : hK h t0 = 9) (k_t1 : hK h t1 = 8) (hkl : Kl h0 h) (hW : Wx X h H) (hZ : va_S (aA (eB X)) s.heap H locs) (ls : Array Slot) (hl : lv_has ls 3 [(0, .ref x0), (1, .ref x1), (2, .ref x2)]) (hE : sX8_init_25 F h x0 x1 x2 t0 t1 = some o) : W p l e (rmA 2 45 h0 o) s m args below meth c H locs (hS h - hS h0) (hL h - hL h0) (MQ below (QVA X h0 o) args s (hS o - hS h0) (hL o - hL h0) (aA (eB X))) (F0 m 25 ls [.ref t0, .ref t1]) := by
  obtain ⟨h_1, eh_1, hE⟩ := nm_e2 hE
  refine pf_X8_23 C hW hZ rfl k_t1 k_t0 eh_1 dX8_init_25 (fun _ _ hW km hZ => ?_)
  replace hkl := hkl.tr km.l
  refine x_wc km ?_
  replace k_x0 := km.at k_x0 (by decide)
  replace k_x1 := km.at k_x1 (by decide)
  replace k_x2 := km.at k_x2 (by decide)
  refine lv_aload_n C.1 C.2.1 dX8_init_28 rfl (lv_at hl 0 rfl) ?_
  refine lv_aload_n C.1 C.2.1 dX8_init_29 rfl (lv_at hl 1 rfl) ?_
  obtain ⟨h_2, eh_2, hE⟩ := nm_e2 hE
  refine pf_X8_27 C hW hZ rfl k_x0 k_x1 eh_2 dX8_init_30 (fun _ _ hW km hZ => ?_)
  replace hkl := hkl.tr km.l
  refine x_wc km ?_
  replace k_x0 := km.at k_x0 (by decide)
  replace k_x1 := km.at k_x1 (by decide)
  replace k_x2 := km.at k_x2 (by decide)
  refine lv_aload_n C.1 C.2.1 dX8_init_33 rfl (lv_at hl 0 rfl) ?_
  refine lv_aload_n C.1 C.2.1 dX8_init_34 rfl (lv_at hl 2 rfl) ?_
  obtain ⟨h_3, eh_3, hE⟩ := nm_e2 hE
  refine pf_X8_31 C hW hZ rfl k_x0 k_x2 eh_3 dX8_init_35 (fun _ _ hW km hZ => ?_)
  replace hkl := hkl.tr km.l
  refine x_wc km ?_
  replace k_x0 := km.at k_x0 (by decide)
  replace k_x1 := km.at k_x1 (by decide)
  replace k_x2 := km.at k_x2 (by decide)
  exact x_vretA C rfl hW hZ hkl hE dX8_init_38
set_option maxRecDepth 20000 in
theorem bX8_init_19 {p : Program} {l : Launch} {e : Env} {s : State} {m : MethodId} {args : Array Value} {below : List Frame} {meth : Method} {c : Code} {X : Ec} {h0 : Hp} {o : Hp} {F : Nat} (C : Cx X p s m args meth c RX8 cX8_init 3 none "<init>") {h : Hp} {x0 : Nat} {x1 : Nat} {x2 : Nat} {t0 : Nat} {t1 : Nat} {H : Heap} {locs : List Loc} (k_x0 : hK h x0 = 8) (k_x1 : hK h x1 = 1) (k_x2 : hK h x2 = 5) (k_t0 : hK h t0 = 9) (k_t1 : hK h t1 = 8) (hkl : Kl h0 h) (hW : Wx X h H) (hZ : va_S (aA (eB X)) s.heap H locs) (ls : Array Slot) (hl : lv_has ls 3 [(0, .ref x0), (1, .ref x1), (2, .ref x2)]) (hE : sX8_init_19 F h x0 x1 x2 t0 t1 = some o) : W p l e (rmA 2 45 h0 o) s m args below meth c H locs (hS h - hS h0) (hL h - hL h0) (MQ below (QVA X h0 o) args s (hS o - hS h0) (hL o - hL h0) (aA (eB X))) (F0 m 19 ls [.ref t0, .ref t1]) := by
  refine lv_dup C.1 C.2.1 dX8_init_19 rfl ?_
  refine lv_bipush (v := (16 : Int32)) C.1 C.2.1 dX8_init_20 (by decide) ?_
  obtain ⟨o_1, eo_1, hE⟩ := cl_e hE
  have m1 := moX9_init eo_1
  have m2 := moX8_init_25 hE
  refine x_kVA (o := o_1) hkl (z_runI (As := [.int (16 : Int32)]) (rest := [.ref t0, .ref t1]) C (ct_X9_init l X k_t0 eo_1) ci_X8_20 hW hZ rfl hl.1 (Nat.le_of_ble_eq_true rfl) rfl dX8_init_22 ⟨Nat.le_of_ble_eq_true rfl, Nat.le_of_ble_eq_true rfl⟩ (rm_ok hkl m1 m2)) hZ (fun _ _ hW km hZ => ?_)
  replace hkl := hkl.tr km
  replace k_x0 := km.at k_x0 (by decide)
  replace k_x1 := km.at k_x1 (by decide)
  replace k_x2 := km.at k_x2 (by decide)
  replace k_t0 := km.at k_t0 (by decide)
  replace k_t1 := km.at k_t1 (by decide)
  exact bX8_init_25 C k_x0 k_x1 k_x2 k_t0 k_t1 hkl hW hZ _ (lv_sub hl [0, 1, 2] rfl) hE
set_option maxRecDepth 20000 in
theorem bX8_init_12 {p : Program} {l : Launch} {e : Env} {s : State} {m : MethodId} {args : Array Value} {below : List Frame} {meth : Method} {c : Code} {X : Ec} {h0 : Hp} {o : Hp} {F : Nat} (C : Cx X p s m args meth c RX8 cX8_init 3 none "<init>") {h : Hp} {x0 : Nat} {x1 : Nat} {x2 : Nat} {t0 : Nat} {t1 : Nat} {H : Heap} {locs : List Loc} (k_x0 : hK h x0 = 8) (k_x1 : hK h x1 = 1) (k_x2 : hK h x2 = 5) (k_t0 : hK h t0 = 3) (k_t1 : hK h t1 = 8) (hkl : Kl h0 h) (hW : Wx X h H) (hZ : va_S (aA (eB X)) s.heap H locs) (ls : Array Slot) (hl : lv_has ls 3 [(0, .ref x0), (1, .ref x1), (2, .ref x2)]) (hE : sX8_init_12 F h x0 x1 x2 t0 t1 = some o) : W p l e (rmA 2 45 h0 o) s m args below meth c H locs (hS h - hS h0) (hL h - hL h0) (MQ below (QVA X h0 o) args s (hS o - hS h0) (hL o - hL h0) (aA (eB X))) (F0 m 12 ls [.ref t0, .ref t1]) := by
  obtain ⟨h_1, eh_1, hE⟩ := nm_e2 hE
  refine pf_X8_12 C hW hZ rfl k_t1 k_t0 eh_1 dX8_init_12 (fun _ _ hW km hZ => ?_)
  replace hkl := hkl.tr km.l
  refine x_wc km ?_
  replace k_x0 := km.at k_x0 (by decide)
  replace k_x1 := km.at k_x1 (by decide)
  replace k_x2 := km.at k_x2 (by decide)
  refine lv_aload_n C.1 C.2.1 dX8_init_15 rfl (lv_at hl 0 rfl) ?_
  obtain ⟨a_2, ea_2, hE⟩ := nm_e2 hE
  obtain ⟨h_3, eh_3, hE⟩ := nm_e2 hE
  refine y_new C hW hZ hkl (moX8_init_19 hE) ⟨rfl, rfl⟩ i_X9 tyX9 tyX9_ok (by decide) rfl rfl dv_X9 m_400 m_35 m_2 eh_3 dX8_init_16 (fun _ hW km k_a_2 hZ => ?_)
  replace hkl := hkl.tr km
  refine x_nmA ea_2 ?_
  rw [← ea_2] at k_a_2
  replace k_x0 := km.at k_x0 (by decide)
  replace k_x1 := km.at k_x1 (by decide)
  replace k_x2 := km.at k_x2 (by decide)
  exact bX8_init_19 C k_x0 k_x1 k_x2 k_a_2 k_x0 hkl hW hZ _ (lv_sub hl [0, 1, 2] rfl) hE
set_option maxRecDepth 20000 in
theorem bX8_init_8 {p : Program} {l : Launch} {e : Env} {s : State} {m : MethodId} {args : Array Value} {below : List Frame} {meth : Method} {c : Code} {X : Ec} {h0 : Hp} {o : Hp} {F : Nat} (C : Cx X p s m args meth c RX8 cX8_init 3 none "<init>") {h : Hp} {x0 : Nat} {x1 : Nat} {x2 : Nat} {t0 : Nat} {t1 : Nat} {H : Heap} {locs : List Loc} (k_x0 : hK h x0 = 8) (k_x1 : hK h x1 = 1) (k_x2 : hK h x2 = 5) (k_t0 : hK h t0 = 3) (k_t1 : hK h t1 = 8) (hkl : Kl h0 h) (hW : Wx X h H) (hZ : va_S (aA (eB X)) s.heap H locs) (ls : Array Slot) (hl : lv_has ls 3 [(0, .ref x0), (1, .ref x1), (2, .ref x2)]) (hE : sX8_init_8 F h x0 x1 x2 t0 t1 = some o) : W p l e (rmA 2 45 h0 o) s m args below meth c H locs (hS h - hS h0) (hL h - hL h0) (MQ below (QVA X h0 o) args s (hS o - hS h0) (hL o - hL h0) (aA (eB X))) (F0 m 8 ls [.ref t0, .ref t1]) := by
  refine lv_dup C.1 C.2.1 dX8_init_8 rfl ?_
  obtain ⟨o_1, eo_1, hE⟩ := cl_e hE
  have m1 := moX3_init eo_1
  have m2 := moX8_init_12 hE
  refine x_kVA (o := o_1) hkl (z_runI (As := []) (rest := [.ref t0, .ref t1]) C (ct_X3_init l X F k_t0 eo_1) ci_X8_11 hW hZ rfl hl.1 (Nat.le_of_ble_eq_true rfl) rfl dX8_init_9 ⟨Nat.le_of_ble_eq_true rfl, Nat.le_of_ble_eq_true rfl⟩ (rm_ok hkl m1 m2)) hZ (fun _ _ hW km hZ => ?_)
  replace hkl := hkl.tr km
  replace k_x0 := km.at k_x0 (by decide)
  replace k_x1 := km.at k_x1 (by decide)
  replace k_x2 := km.at k_x2 (by decide)
  replace k_t0 := km.at k_t0 (by decide)
  replace k_t1 := km.at k_t1 (by decide)
  exact bX8_init_12 C k_x0 k_x1 k_x2 k_t0 k_t1 hkl hW hZ _ (lv_sub hl [0, 1, 2] rfl) hE
set_option maxRecDepth 20000 in
theorem ct_X8_init (l : Launch) (X : Ec) (F : Nat) {h : Hp} {x0 : Nat} {x1 : Nat} {x2 : Nat} {o : Hp} (k_x0 : hK h x0 = 8) (k_x1 : hK h x1 = 1) (k_x2 : hK h x2 = 5) (hE : sX8_init F h x0 x1 x2 = some o) : MetVA l yX8_init cX8_init 3 none 2 45 X [.ref x0, .ref x1, .ref x2] h o := by
  refine x_metA (oh := o) (by decide) (Nat.le_of_ble_eq_true rfl) ?_
  intro p e s m below meth c ls C hl hW hZ
  have hl : lv_has ls 3 [(0, .ref x0), (1, .ref x1), (2, .ref x2)] := hl
  have hkl : Kl h h := Kl.rf h
  refine lv_aload_n C.1 C.2.1 dX8_init_0 rfl (lv_at hl 0 rfl) ?_
  refine W.objInit C.1 C.2.1 C.2.2.2.1 (C.2.2.2.2.1 _ m_397) (C.2.2.2.2.1 _ m_32) (C.2.2.2.2.1 _ m_33) rfl (by rw [C.2.2.1]; exact hl.1) rfl dX8_init_1 (Nat.le_of_ble_eq_true rfl) (Nat.le_of_ble_eq_true rfl) ?_
  refine W.eq (g2 := F0 m 4 ls []) rfl ?_
  refine lv_aload_n C.1 C.2.1 dX8_init_4 rfl (lv_at hl 0 rfl) ?_
  obtain ⟨a_1, ea_1, hE⟩ := nm_e2 hE
  obtain ⟨h_2, eh_2, hE⟩ := nm_e2 hE
  refine y_new C hW hZ hkl (moX8_init_8 hE) ⟨rfl, rfl⟩ i_X3 tyX3 tyX3_ok (by decide) rfl rfl dv_X3 m_398 m_266 m_8 eh_2 dX8_init_5 (fun _ hW km k_a_1 hZ => ?_)
  replace hkl := hkl.tr km
  refine x_nmA ea_1 ?_
  rw [← ea_1] at k_a_1
  replace k_x0 := km.at k_x0 (by decide)
  replace k_x1 := km.at k_x1 (by decide)
  replace k_x2 := km.at k_x2 (by decide)
  exact bX8_init_8 C k_x0 k_x1 k_x2 k_a_1 k_x0 hkl hW hZ _ (lv_sub hl [0, 1, 2] rfl) hE
set_option maxRecDepth 100000 in
theorem m_420 : Cond.methodLink RX6 3 objectInit ∈ W0 := w0_in (List.mem_append_right _ (List.mem_of_getElem? (i := 420) rfl)) rfl
set_option maxRecDepth 100000 in
theorem m_421 : Cond.classLink RX6 9 RX3 ∈ W0 := w0_in (List.mem_append_right _ (List.mem_of_getElem? (i := 421) rfl)) rfl
set_option maxRecDepth 100000 in
theorem m_422 : Cond.methodLink RX6 11 yX3_init ∈ W0 := w0_in (List.mem_append_right _ (List.mem_of_getElem? (i := 422) rfl)) rfl
set_option maxRecDepth 100000 in
theorem m_423 : Cond.fieldLink RX6 25 (TX6 0).1 (TX6 0).2.1 (TX6 0).2.2.1 ∈ W0 := w0_in (List.mem_append_right _ (List.mem_of_getElem? (i := 423) rfl)) rfl
set_option maxRecDepth 100000 in
theorem m_424 : Cond.fieldLink RX6 29 (TX6 1).1 (TX6 1).2.1 (TX6 1).2.2.1 ∈ W0 := w0_in (List.mem_append_right _ (List.mem_of_getElem? (i := 424) rfl)) rfl
set_option maxRecDepth 100000 in
theorem m_425 : Cond.fieldLink RX6 33 (TX6 2).1 (TX6 2).2.1 (TX6 2).2.2.1 ∈ W0 := w0_in (List.mem_append_right _ (List.mem_of_getElem? (i := 425) rfl)) rfl
set_option maxRecDepth 100000 in
theorem m_426 : Cond.fieldLink RX6 12 (TX6 3).1 (TX6 3).2.1 (TX6 3).2.2.1 ∈ W0 := w0_in (List.mem_append_right _ (List.mem_of_getElem? (i := 426) rfl)) rfl
set_option maxRecDepth 100000 in
theorem m_427 : Cond.fieldLink RX6 18 (TX6 4).1 (TX6 4).2.1 (TX6 4).2.2.1 ∈ W0 := w0_in (List.mem_append_right _ (List.mem_of_getElem? (i := 427) rfl)) rfl
set_option maxRecDepth 100000 in
theorem m_428 : Cond.fieldLink RX6 21 (TX6 5).1 (TX6 5).2.1 (TX6 5).2.2.1 ∈ W0 := w0_in (List.mem_append_right _ (List.mem_of_getElem? (i := 428) rfl)) rfl
theorem i_X6 : ∀ w ∈ u_ws RX6 TX6 8, w ∈ W0 := by
  intro w hw
  exact w0_in (List.mem_append_right _ ((by decide +kernel : ∀ w ∈ u_ws RX6 TX6 8, w ∈ tables_1) w hw)) ((by decide +kernel : ∀ w ∈ u_ws RX6 TX6 8, goodWord w = true) w hw)
section
variable {p : Program} {l : Launch} {e : Env} {R : Room} {s : State} {m : MethodId} {args : Array Value} {below : List Frame} {meth : Method} {c : Code} {H : Heap} {locs : List Loc} {cells slots : Nat} {Q : State → Prop}
variable {cc : ByteArray} {pc : Nat} {ls : Array Slot} {rest : List Value} {X : Ec} {h h1 : Hp} {nL : Nat} {rt : Option FieldType} {mn : String}
theorem pf_X6_21 {a r : Nat} (C : Cx X p s m args meth c RX6 cc nL rt mn) (hW : Wx X h H) (hZ : va_S (aA (eB X)) s.heap H locs) (hmn : mn = "<init>") (ha : hK h a = 6) (hr : hK h r = 17) (eh : h1 = wR h a 5 (some r)) (hdg : decode cc pc = .ok (.putfield 21, 3)) (kk : ∀ (H1 : Heap) (locs1 : List Loc), Wx X h1 H1 → Km h h1 → va_S (aA (eB X)) s.heap H1 locs1 → W p l e R s m args below meth c H1 locs1 cells slots Q (F0 m (pc + 3) ls rest)) : W p l e R s m args below meth c H locs cells slots Q (F0 m pc ls (.ref r :: .ref a :: rest)) :=
  y_putrF (ty := .array .int) C hW hZ ha i_X6 tyX6 tyX6_ok nmX6 (by decide) rfl rfl (by decide) m_428 rfl hmn rfl (by decide +kernel) rfl rfl rfl hr rfl (by decide) eh hdg kk
theorem pf_X6_25 {a r : Nat} (C : Cx X p s m args meth c RX6 cc nL rt mn) (hW : Wx X h H) (hZ : va_S (aA (eB X)) s.heap H locs) (hmn : mn = "<init>") (ha : hK h a = 6) (hr : hK h r = 1) (eh : h1 = wR h a 0 (some r)) (hdg : decode cc pc = .ok (.putfield 25, 3)) (kk : ∀ (H1 : Heap) (locs1 : List Loc), Wx X h1 H1 → Km h h1 → va_S (aA (eB X)) s.heap H1 locs1 → W p l e R s m args below meth c H1 locs1 cells slots Q (F0 m (pc + 3) ls rest)) : W p l e R s m args below meth c H locs cells slots Q (F0 m pc ls (.ref r :: .ref a :: rest)) :=
  y_putrF (ty := .object "GameRules$Law") C hW hZ ha i_X6 tyX6 tyX6_ok nmX6 (by decide) rfl rfl (by decide) m_423 rfl hmn rfl (by decide +kernel) rfl rfl rfl hr rfl (by decide) eh hdg kk
theorem pf_X6_29 {a r : Nat} (C : Cx X p s m args meth c RX6 cc nL rt mn) (hW : Wx X h H) (hZ : va_S (aA (eB X)) s.heap H locs) (hmn : mn = "<init>") (ha : hK h a = 6) (hr : hK h r = 10) (eh : h1 = wR h a 1 (some r)) (hdg : decode cc pc = .ok (.putfield 29, 3)) (kk : ∀ (H1 : Heap) (locs1 : List Loc), Wx X h1 H1 → Km h h1 → va_S (aA (eB X)) s.heap H1 locs1 → W p l e R s m args below meth c H1 locs1 cells slots Q (F0 m (pc + 3) ls rest)) : W p l e R s m args below meth c H locs cells slots Q (F0 m pc ls (.ref r :: .ref a :: rest)) :=
  y_putrF (ty := .object "GameRules$Ways") C hW hZ ha i_X6 tyX6 tyX6_ok nmX6 (by decide) rfl rfl (by decide) m_424 rfl hmn rfl (by decide +kernel) rfl rfl rfl hr rfl (by decide) eh hdg kk
theorem pf_X6_33 {a r : Nat} (C : Cx X p s m args meth c RX6 cc nL rt mn) (hW : Wx X h H) (hZ : va_S (aA (eB X)) s.heap H locs) (hmn : mn = "<init>") (ha : hK h a = 6) (hr : hK h r = 5) (eh : h1 = wR h a 2 (some r)) (hdg : decode cc pc = .ok (.putfield 33, 3)) (kk : ∀ (H1 : Heap) (locs1 : List Loc), Wx X h1 H1 → Km h h1 → va_S (aA (eB X)) s.heap H1 locs1 → W p l e R s m args below meth c H1 locs1 cells slots Q (F0 m (pc + 3) ls rest)) : W p l e R s m args below meth c H locs cells slots Q (F0 m pc ls (.ref r :: .ref a :: rest)) :=
  y_putrF (ty := .object "GameRules$Referee") C hW hZ ha i_X6 tyX6 tyX6_ok nmX6 (by decide) rfl rfl (by decide) m_425 rfl hmn rfl (by decide +kernel) rfl rfl rfl hr rfl (by decide) eh hdg kk
theorem pf_X6_18 {a r : Nat} (C : Cx X p s m args meth c RX6 cc nL rt mn) (hW : Wx X h H) (hZ : va_S (aA (eB X)) s.heap H locs) (hmn : mn = "<init>") (ha : hK h a = 6) (hr : hK h r = 3) (eh : h1 = wR h a 4 (some r)) (hdg : decode cc pc = .ok (.putfield 18, 3)) (kk : ∀ (H1 : Heap) (locs1 : List Loc), Wx X h1 H1 → Km h h1 → va_S (aA (eB X)) s.heap H1 locs1 → W p l e R s m args below meth c H1 locs1 cells slots Q (F0 m (pc + 3) ls rest)) : W p l e R s m args below meth c H locs cells slots Q (F0 m pc ls (.ref r :: .ref a :: rest)) :=
  y_putrF (ty := .object "GameRules$Position") C hW hZ ha i_X6 tyX6 tyX6_ok nmX6 (by decide) rfl rfl (by decide) m_427 rfl hmn rfl (by decide +kernel) rfl rfl rfl hr rfl (by decide) eh hdg kk
theorem pf_X6_12 {a r : Nat} (C : Cx X p s m args meth c RX6 cc nL rt mn) (hW : Wx X h H) (hZ : va_S (aA (eB X)) s.heap H locs) (hmn : mn = "<init>") (ha : hK h a = 6) (hr : hK h r = 3) (eh : h1 = wR h a 3 (some r)) (hdg : decode cc pc = .ok (.putfield 12, 3)) (kk : ∀ (H1 : Heap) (locs1 : List Loc), Wx X h1 H1 → Km h h1 → va_S (aA (eB X)) s.heap H1 locs1 → W p l e R s m args below meth c H1 locs1 cells slots Q (F0 m (pc + 3) ls rest)) : W p l e R s m args below meth c H locs cells slots Q (F0 m pc ls (.ref r :: .ref a :: rest)) :=
  y_putrF (ty := .object "GameRules$Position") C hW hZ ha i_X6 tyX6 tyX6_ok nmX6 (by decide) rfl rfl (by decide) m_426 rfl hmn rfl (by decide +kernel) rfl rfl rfl hr rfl (by decide) eh hdg kk
end
theorem ci_X6_11 : cwi RX6 11 yX3_init cX3_init 1 0 := ⟨m_269, m_422, m_8, m_268, rfl, by decide, by decide, by decide +kernel⟩
theorem dX6_init_0 : decode cX6_init 0 = .ok (.aload_n 0, 1) := by decide +kernel
theorem dX6_init_1 : decode cX6_init 1 = .ok (.invokespecial 3, 3) := by decide +kernel
theorem dX6_init_4 : decode cX6_init 4 = .ok (.aload_n 0, 1) := by decide +kernel
theorem dX6_init_5 : decode cX6_init 5 = .ok (.new 9, 3) := by decide +kernel
theorem dX6_init_8 : decode cX6_init 8 = .ok (.dup, 1) := by decide +kernel
theorem dX6_init_9 : decode cX6_init 9 = .ok (.invokespecial 11, 3) := by decide +kernel
theorem dX6_init_12 : decode cX6_init 12 = .ok (.putfield 12, 3) := by decide +kernel
theorem dX6_init_15 : decode cX6_init 15 = .ok (.aload_n 0, 1) := by decide +kernel
theorem dX6_init_16 : decode cX6_init 16 = .ok (.new 9, 3) := by decide +kernel
theorem dX6_init_19 : decode cX6_init 19 = .ok (.dup, 1) := by decide +kernel
theorem dX6_init_20 : decode cX6_init 20 = .ok (.invokespecial 11, 3) := by decide +kernel
theorem dX6_init_23 : decode cX6_init 23 = .ok (.putfield 18, 3) := by decide +kernel
theorem dX6_init_26 : decode cX6_init 26 = .ok (.aload_n 0, 1) := by decide +kernel
theorem dX6_init_27 : decode cX6_init 27 = .ok (.sipush 3000, 3) := by decide +kernel
theorem dX6_init_30 : decode cX6_init 30 = .ok (.newarray .int, 2) := by decide +kernel
theorem dX6_init_32 : decode cX6_init 32 = .ok (.putfield 21, 3) := by decide +kernel
theorem dX6_init_35 : decode cX6_init 35 = .ok (.aload_n 0, 1) := by decide +kernel
theorem dX6_init_36 : decode cX6_init 36 = .ok (.aload_n 1, 1) := by decide +kernel
theorem dX6_init_37 : decode cX6_init 37 = .ok (.putfield 25, 3) := by decide +kernel
theorem dX6_init_40 : decode cX6_init 40 = .ok (.aload_n 0, 1) := by decide +kernel
theorem dX6_init_41 : decode cX6_init 41 = .ok (.aload_n 2, 1) := by decide +kernel
theorem dX6_init_42 : decode cX6_init 42 = .ok (.putfield 29, 3) := by decide +kernel
theorem dX6_init_45 : decode cX6_init 45 = .ok (.aload_n 0, 1) := by decide +kernel
theorem dX6_init_46 : decode cX6_init 46 = .ok (.aload_n 3, 1) := by decide +kernel
theorem dX6_init_47 : decode cX6_init 47 = .ok (.putfield 33, 3) := by decide +kernel
theorem dX6_init_50 : decode cX6_init 50 = .ok (.return_, 1) := by decide +kernel
set_option maxRecDepth 20000 in
theorem moX6_init_32 {o : Hp} {F : Nat} {h : Hp} {x0 : Nat} {x1 : Nat} {x2 : Nat} {x3 : Nat} {t0 : Nat} {t1 : Nat} (hE : sX6_init_32 F h x0 x1 x2 x3 t0 t1 = some o) : Le h o := by
  obtain ⟨h_1, eh_1, hE⟩ := nm_e2 hE
  refine (le_R eh_1).tr ?_
  obtain ⟨h_2, eh_2, hE⟩ := nm_e2 hE
  refine (le_R eh_2).tr ?_
  obtain ⟨h_3, eh_3, hE⟩ := nm_e2 hE
  refine (le_R eh_3).tr ?_
  obtain ⟨h_4, eh_4, hE⟩ := nm_e2 hE
  refine (le_R eh_4).tr ?_
  exact le_some1 hE
set_option maxRecDepth 20000 in
theorem moX6_init_23 {o : Hp} {F : Nat} {h : Hp} {x0 : Nat} {x1 : Nat} {x2 : Nat} {x3 : Nat} {t0 : Nat} {t1 : Nat} (hE : sX6_init_23 F h x0 x1 x2 x3 t0 t1 = some o) : Le h o := by
  obtain ⟨h_1, eh_1, hE⟩ := nm_e2 hE
  refine (le_R eh_1).tr ?_
  obtain ⟨a_2, ea_2, hE⟩ := nm_e2 hE
  obtain ⟨h_3, eh_3, hE⟩ := nm_e2 hE
  refine (le_C eh_3).tr ?_
  exact moX6_init_32 hE
set_option maxRecDepth 20000 in
theorem moX6_init_19 {o : Hp} {F : Nat} {h : Hp} {x0 : Nat} {x1 : Nat} {x2 : Nat} {x3 : Nat} {t0 : Nat} {t1 : Nat} (hE : sX6_init_19 F h x0 x1 x2 x3 t0 t1 = some o) : Le h o := by
  obtain ⟨o_1, eo_1, hE⟩ := cl_e hE
  refine (moX3_init eo_1).tr ?_
  exact moX6_init_23 hE
set_option maxRecDepth 20000 in
theorem moX6_init_12 {o : Hp} {F : Nat} {h : Hp} {x0 : Nat} {x1 : Nat} {x2 : Nat} {x3 : Nat} {t0 : Nat} {t1 : Nat} (hE : sX6_init_12 F h x0 x1 x2 x3 t0 t1 = some o) : Le h o := by
  obtain ⟨h_1, eh_1, hE⟩ := nm_e2 hE
  refine (le_R eh_1).tr ?_
  obtain ⟨a_2, ea_2, hE⟩ := nm_e2 hE
  obtain ⟨h_3, eh_3, hE⟩ := nm_e2 hE
  refine (le_C eh_3).tr ?_
  exact moX6_init_19 hE
set_option maxRecDepth 20000 in
theorem moX6_init_8 {o : Hp} {F : Nat} {h : Hp} {x0 : Nat} {x1 : Nat} {x2 : Nat} {x3 : Nat} {t0 : Nat} {t1 : Nat} (hE : sX6_init_8 F h x0 x1 x2 x3 t0 t1 = some o) : Le h o := by
  obtain ⟨o_1, eo_1, hE⟩ := cl_e hE
  refine (moX3_init eo_1).tr ?_
  exact moX6_init_12 hE
set_option maxRecDepth 20000 in
theorem moX6_init {o : Hp} {F : Nat} {h : Hp} {x0 : Nat} {x1 : Nat} {x2 : Nat} {x3 : Nat} (hE : sX6_init F h x0 x1 x2 x3 = some o) : Le h o := by
  obtain ⟨a_1, ea_1, hE⟩ := nm_e2 hE
  obtain ⟨h_2, eh_2, hE⟩ := nm_e2 hE
  refine (le_C eh_2).tr ?_
  exact moX6_init_8 hE
set_option maxRecDepth 20000 in
theorem bX6_init_32 {p : Program} {l : Launch} {e : Env} {s : State} {m : MethodId} {args : Array Value} {below : List Frame} {meth : Method} {c : Code} {X : Ec} {h0 : Hp} {o : Hp} {F : Nat} (C : Cx X p s m args meth c RX6 cX6_init 4 none "<init>") {h : Hp} {x0 : Nat} {x1 : Nat} {x2 : Nat} {x3 : Nat} {t0 : Nat} {t1 : Nat} {H : Heap} {locs : List Loc} (k_x0 : hK h x0 = 6) (k_x1 : hK h x1 = 1) (k_x2 : hK h x2 = 10) (k_x3 : hK h x3 = 5) (k_t0 : hK h t0 = 17) (k_t1 : hK h t1 = 6) (hkl : Kl h0 h) (hW : Wx X h H) (hZ : va_S (aA (eB X)) s.heap H locs) (ls : Array Slot) (hl : lv_has ls 4 [(0, .ref x0), (1, .ref x1), (2, .ref x2), (3, .ref x3)]) (hE : sX6_init_32 F h x0 x1 x2 x3 t0 t1 = some o) : W p l e (rmA 2 43 h0 o) s m args below meth c H locs (hS h - hS h0) (hL h - hL h0) (MQ below (QVA X h0 o) args s (hS o - hS h0) (hL o - hL h0) (aA (eB X))) (F0 m 32 ls [.ref t0, .ref t1]) := by
  obtain ⟨h_1, eh_1, hE⟩ := nm_e2 hE
  refine pf_X6_21 C hW hZ rfl k_t1 k_t0 eh_1 dX6_init_32 (fun _ _ hW km hZ => ?_)
  replace hkl := hkl.tr km.l
  refine x_wc km ?_
  replace k_x0 := km.at k_x0 (by decide)
  replace k_x1 := km.at k_x1 (by decide)
  replace k_x2 := km.at k_x2 (by decide)
  replace k_x3 := km.at k_x3 (by decide)
  refine lv_aload_n C.1 C.2.1 dX6_init_35 rfl (lv_at hl 0 rfl) ?_
  refine lv_aload_n C.1 C.2.1 dX6_init_36 rfl (lv_at hl 1 rfl) ?_
  obtain ⟨h_2, eh_2, hE⟩ := nm_e2 hE
  refine pf_X6_25 C hW hZ rfl k_x0 k_x1 eh_2 dX6_init_37 (fun _ _ hW km hZ => ?_)
  replace hkl := hkl.tr km.l
  refine x_wc km ?_
  replace k_x0 := km.at k_x0 (by decide)
  replace k_x1 := km.at k_x1 (by decide)
  replace k_x2 := km.at k_x2 (by decide)
  replace k_x3 := km.at k_x3 (by decide)
  refine lv_aload_n C.1 C.2.1 dX6_init_40 rfl (lv_at hl 0 rfl) ?_
  refine lv_aload_n C.1 C.2.1 dX6_init_41 rfl (lv_at hl 2 rfl) ?_
  obtain ⟨h_3, eh_3, hE⟩ := nm_e2 hE
  refine pf_X6_29 C hW hZ rfl k_x0 k_x2 eh_3 dX6_init_42 (fun _ _ hW km hZ => ?_)
  replace hkl := hkl.tr km.l
  refine x_wc km ?_
  replace k_x0 := km.at k_x0 (by decide)
  replace k_x1 := km.at k_x1 (by decide)
  replace k_x2 := km.at k_x2 (by decide)
  replace k_x3 := km.at k_x3 (by decide)
  refine lv_aload_n C.1 C.2.1 dX6_init_45 rfl (lv_at hl 0 rfl) ?_
  refine lv_aload_n C.1 C.2.1 dX6_init_46 rfl (lv_at hl 3 rfl) ?_
  obtain ⟨h_4, eh_4, hE⟩ := nm_e2 hE
  refine pf_X6_33 C hW hZ rfl k_x0 k_x3 eh_4 dX6_init_47 (fun _ _ hW km hZ => ?_)
  replace hkl := hkl.tr km.l
  refine x_wc km ?_
  replace k_x0 := km.at k_x0 (by decide)
  replace k_x1 := km.at k_x1 (by decide)
  replace k_x2 := km.at k_x2 (by decide)
  replace k_x3 := km.at k_x3 (by decide)
  exact x_vretA C rfl hW hZ hkl hE dX6_init_50
set_option maxRecDepth 20000 in
theorem bX6_init_23 {p : Program} {l : Launch} {e : Env} {s : State} {m : MethodId} {args : Array Value} {below : List Frame} {meth : Method} {c : Code} {X : Ec} {h0 : Hp} {o : Hp} {F : Nat} (C : Cx X p s m args meth c RX6 cX6_init 4 none "<init>") {h : Hp} {x0 : Nat} {x1 : Nat} {x2 : Nat} {x3 : Nat} {t0 : Nat} {t1 : Nat} {H : Heap} {locs : List Loc} (k_x0 : hK h x0 = 6) (k_x1 : hK h x1 = 1) (k_x2 : hK h x2 = 10) (k_x3 : hK h x3 = 5) (k_t0 : hK h t0 = 3) (k_t1 : hK h t1 = 6) (hkl : Kl h0 h) (hW : Wx X h H) (hZ : va_S (aA (eB X)) s.heap H locs) (ls : Array Slot) (hl : lv_has ls 4 [(0, .ref x0), (1, .ref x1), (2, .ref x2), (3, .ref x3)]) (hE : sX6_init_23 F h x0 x1 x2 x3 t0 t1 = some o) : W p l e (rmA 2 43 h0 o) s m args below meth c H locs (hS h - hS h0) (hL h - hL h0) (MQ below (QVA X h0 o) args s (hS o - hS h0) (hL o - hL h0) (aA (eB X))) (F0 m 23 ls [.ref t0, .ref t1]) := by
  obtain ⟨h_1, eh_1, hE⟩ := nm_e2 hE
  refine pf_X6_18 C hW hZ rfl k_t1 k_t0 eh_1 dX6_init_23 (fun _ _ hW km hZ => ?_)
  replace hkl := hkl.tr km.l
  refine x_wc km ?_
  replace k_x0 := km.at k_x0 (by decide)
  replace k_x1 := km.at k_x1 (by decide)
  replace k_x2 := km.at k_x2 (by decide)
  replace k_x3 := km.at k_x3 (by decide)
  refine lv_aload_n C.1 C.2.1 dX6_init_26 rfl (lv_at hl 0 rfl) ?_
  refine lv_sipush (v := (3000 : Int32)) C.1 C.2.1 dX6_init_27 (by decide) ?_
  obtain ⟨a_2, ea_2, hE⟩ := nm_e2 hE
  obtain ⟨h_3, eh_3, hE⟩ := nm_e2 hE
  refine y_newa (k := 17) (ty := .int) (t0 := 1) C hW hZ hkl (moX6_init_32 hE) ⟨rfl, rfl⟩ (by decide) (by decide) rfl rfl (by intro C hC; cases hC) hdef_17 m_54 (by decide) (by decide) eh_3 dX6_init_30 (fun _ hW km k_a_2 hZ => ?_)
  replace hkl := hkl.tr km
  refine x_nmA ea_2 ?_
  rw [← ea_2] at k_a_2
  replace k_x0 := km.at k_x0 (by decide)
  replace k_x1 := km.at k_x1 (by decide)
  replace k_x2 := km.at k_x2 (by decide)
  replace k_x3 := km.at k_x3 (by decide)
  exact bX6_init_32 C k_x0 k_x1 k_x2 k_x3 k_a_2 k_x0 hkl hW hZ _ (lv_sub hl [0, 1, 2, 3] rfl) hE
set_option maxRecDepth 20000 in
theorem bX6_init_19 {p : Program} {l : Launch} {e : Env} {s : State} {m : MethodId} {args : Array Value} {below : List Frame} {meth : Method} {c : Code} {X : Ec} {h0 : Hp} {o : Hp} {F : Nat} (C : Cx X p s m args meth c RX6 cX6_init 4 none "<init>") {h : Hp} {x0 : Nat} {x1 : Nat} {x2 : Nat} {x3 : Nat} {t0 : Nat} {t1 : Nat} {H : Heap} {locs : List Loc} (k_x0 : hK h x0 = 6) (k_x1 : hK h x1 = 1) (k_x2 : hK h x2 = 10) (k_x3 : hK h x3 = 5) (k_t0 : hK h t0 = 3) (k_t1 : hK h t1 = 6) (hkl : Kl h0 h) (hW : Wx X h H) (hZ : va_S (aA (eB X)) s.heap H locs) (ls : Array Slot) (hl : lv_has ls 4 [(0, .ref x0), (1, .ref x1), (2, .ref x2), (3, .ref x3)]) (hE : sX6_init_19 F h x0 x1 x2 x3 t0 t1 = some o) : W p l e (rmA 2 43 h0 o) s m args below meth c H locs (hS h - hS h0) (hL h - hL h0) (MQ below (QVA X h0 o) args s (hS o - hS h0) (hL o - hL h0) (aA (eB X))) (F0 m 19 ls [.ref t0, .ref t1]) := by
  refine lv_dup C.1 C.2.1 dX6_init_19 rfl ?_
  obtain ⟨o_1, eo_1, hE⟩ := cl_e hE
  have m1 := moX3_init eo_1
  have m2 := moX6_init_23 hE
  refine x_kVA (o := o_1) hkl (z_runI (As := []) (rest := [.ref t0, .ref t1]) C (ct_X3_init l X F k_t0 eo_1) ci_X6_11 hW hZ rfl hl.1 (Nat.le_of_ble_eq_true rfl) rfl dX6_init_20 ⟨Nat.le_of_ble_eq_true rfl, Nat.le_of_ble_eq_true rfl⟩ (rm_ok hkl m1 m2)) hZ (fun _ _ hW km hZ => ?_)
  replace hkl := hkl.tr km
  replace k_x0 := km.at k_x0 (by decide)
  replace k_x1 := km.at k_x1 (by decide)
  replace k_x2 := km.at k_x2 (by decide)
  replace k_x3 := km.at k_x3 (by decide)
  replace k_t0 := km.at k_t0 (by decide)
  replace k_t1 := km.at k_t1 (by decide)
  exact bX6_init_23 C k_x0 k_x1 k_x2 k_x3 k_t0 k_t1 hkl hW hZ _ (lv_sub hl [0, 1, 2, 3] rfl) hE
set_option maxRecDepth 20000 in
theorem bX6_init_12 {p : Program} {l : Launch} {e : Env} {s : State} {m : MethodId} {args : Array Value} {below : List Frame} {meth : Method} {c : Code} {X : Ec} {h0 : Hp} {o : Hp} {F : Nat} (C : Cx X p s m args meth c RX6 cX6_init 4 none "<init>") {h : Hp} {x0 : Nat} {x1 : Nat} {x2 : Nat} {x3 : Nat} {t0 : Nat} {t1 : Nat} {H : Heap} {locs : List Loc} (k_x0 : hK h x0 = 6) (k_x1 : hK h x1 = 1) (k_x2 : hK h x2 = 10) (k_x3 : hK h x3 = 5) (k_t0 : hK h t0 = 3) (k_t1 : hK h t1 = 6) (hkl : Kl h0 h) (hW : Wx X h H) (hZ : va_S (aA (eB X)) s.heap H locs) (ls : Array Slot) (hl : lv_has ls 4 [(0, .ref x0), (1, .ref x1), (2, .ref x2), (3, .ref x3)]) (hE : sX6_init_12 F h x0 x1 x2 x3 t0 t1 = some o) : W p l e (rmA 2 43 h0 o) s m args below meth c H locs (hS h - hS h0) (hL h - hL h0) (MQ below (QVA X h0 o) args s (hS o - hS h0) (hL o - hL h0) (aA (eB X))) (F0 m 12 ls [.ref t0, .ref t1]) := by
  obtain ⟨h_1, eh_1, hE⟩ := nm_e2 hE
  refine pf_X6_12 C hW hZ rfl k_t1 k_t0 eh_1 dX6_init_12 (fun _ _ hW km hZ => ?_)
  replace hkl := hkl.tr km.l
  refine x_wc km ?_
  replace k_x0 := km.at k_x0 (by decide)
  replace k_x1 := km.at k_x1 (by decide)
  replace k_x2 := km.at k_x2 (by decide)
  replace k_x3 := km.at k_x3 (by decide)
  refine lv_aload_n C.1 C.2.1 dX6_init_15 rfl (lv_at hl 0 rfl) ?_
  obtain ⟨a_2, ea_2, hE⟩ := nm_e2 hE
  obtain ⟨h_3, eh_3, hE⟩ := nm_e2 hE
  refine y_new C hW hZ hkl (moX6_init_19 hE) ⟨rfl, rfl⟩ i_X3 tyX3 tyX3_ok (by decide) rfl rfl dv_X3 m_421 m_266 m_8 eh_3 dX6_init_16 (fun _ hW km k_a_2 hZ => ?_)
  replace hkl := hkl.tr km
  refine x_nmA ea_2 ?_
  rw [← ea_2] at k_a_2
  replace k_x0 := km.at k_x0 (by decide)
  replace k_x1 := km.at k_x1 (by decide)
  replace k_x2 := km.at k_x2 (by decide)
  replace k_x3 := km.at k_x3 (by decide)
  exact bX6_init_19 C k_x0 k_x1 k_x2 k_x3 k_a_2 k_x0 hkl hW hZ _ (lv_sub hl [0, 1, 2, 3] rfl) hE
set_option maxRecDepth 20000 in
theorem bX6_init_8 {p : Program} {l : Launch} {e : Env} {s : State} {m : MethodId} {args : Array Value} {below : List Frame} {meth : Method} {c : Code} {X : Ec} {h0 : Hp} {o : Hp} {F : Nat} (C : Cx X p s m args meth c RX6 cX6_init 4 none "<init>") {h : Hp} {x0 : Nat} {x1 : Nat} {x2 : Nat} {x3 : Nat} {t0 : Nat} {t1 : Nat} {H : Heap} {locs : List Loc} (k_x0 : hK h x0 = 6) (k_x1 : hK h x1 = 1) (k_x2 : hK h x2 = 10) (k_x3 : hK h x3 = 5) (k_t0 : hK h t0 = 3) (k_t1 : hK h t1 = 6) (hkl : Kl h0 h) (hW : Wx X h H) (hZ : va_S (aA (eB X)) s.heap H locs) (ls : Array Slot) (hl : lv_has ls 4 [(0, .ref x0), (1, .ref x1), (2, .ref x2), (3, .ref x3)]) (hE : sX6_init_8 F h x0 x1 x2 x3 t0 t1 = some o) : W p l e (rmA 2 43 h0 o) s m args below meth c H locs (hS h - hS h0) (hL h - hL h0) (MQ below (QVA X h0 o) args s (hS o - hS h0) (hL o - hL h0) (aA (eB X))) (F0 m 8 ls [.ref t0, .ref t1]) := by
  refine lv_dup C.1 C.2.1 dX6_init_8 rfl ?_
  obtain ⟨o_1, eo_1, hE⟩ := cl_e hE
  have m1 := moX3_init eo_1
  have m2 := moX6_init_12 hE
  refine x_kVA (o := o_1) hkl (z_runI (As := []) (rest := [.ref t0, .ref t1]) C (ct_X3_init l X F k_t0 eo_1) ci_X6_11 hW hZ rfl hl.1 (Nat.le_of_ble_eq_true rfl) rfl dX6_init_9 ⟨Nat.le_of_ble_eq_true rfl, Nat.le_of_ble_eq_true rfl⟩ (rm_ok hkl m1 m2)) hZ (fun _ _ hW km hZ => ?_)
  replace hkl := hkl.tr km
  replace k_x0 := km.at k_x0 (by decide)
  replace k_x1 := km.at k_x1 (by decide)
  replace k_x2 := km.at k_x2 (by decide)
  replace k_x3 := km.at k_x3 (by decide)
  replace k_t0 := km.at k_t0 (by decide)
  replace k_t1 := km.at k_t1 (by decide)
  exact bX6_init_12 C k_x0 k_x1 k_x2 k_x3 k_t0 k_t1 hkl hW hZ _ (lv_sub hl [0, 1, 2, 3] rfl) hE
set_option maxRecDepth 20000 in
theorem ct_X6_init (l : Launch) (X : Ec) (F : Nat) {h : Hp} {x0 : Nat} {x1 : Nat} {x2 : Nat} {x3 : Nat} {o : Hp} (k_x0 : hK h x0 = 6) (k_x1 : hK h x1 = 1) (k_x2 : hK h x2 = 10) (k_x3 : hK h x3 = 5) (hE : sX6_init F h x0 x1 x2 x3 = some o) : MetVA l yX6_init cX6_init 4 none 2 43 X [.ref x0, .ref x1, .ref x2, .ref x3] h o := by
  refine x_metA (oh := o) (by decide) (Nat.le_of_ble_eq_true rfl) ?_
  intro p e s m below meth c ls C hl hW hZ
  have hl : lv_has ls 4 [(0, .ref x0), (1, .ref x1), (2, .ref x2), (3, .ref x3)] := hl
  have hkl : Kl h h := Kl.rf h
  refine lv_aload_n C.1 C.2.1 dX6_init_0 rfl (lv_at hl 0 rfl) ?_
  refine W.objInit C.1 C.2.1 C.2.2.2.1 (C.2.2.2.2.1 _ m_420) (C.2.2.2.2.1 _ m_32) (C.2.2.2.2.1 _ m_33) rfl (by rw [C.2.2.1]; exact hl.1) rfl dX6_init_1 (Nat.le_of_ble_eq_true rfl) (Nat.le_of_ble_eq_true rfl) ?_
  refine W.eq (g2 := F0 m 4 ls []) rfl ?_
  refine lv_aload_n C.1 C.2.1 dX6_init_4 rfl (lv_at hl 0 rfl) ?_
  obtain ⟨a_1, ea_1, hE⟩ := nm_e2 hE
  obtain ⟨h_2, eh_2, hE⟩ := nm_e2 hE
  refine y_new C hW hZ hkl (moX6_init_8 hE) ⟨rfl, rfl⟩ i_X3 tyX3 tyX3_ok (by decide) rfl rfl dv_X3 m_421 m_266 m_8 eh_2 dX6_init_5 (fun _ hW km k_a_1 hZ => ?_)
  replace hkl := hkl.tr km
  refine x_nmA ea_1 ?_
  rw [← ea_1] at k_a_1
  replace k_x0 := km.at k_x0 (by decide)
  replace k_x1 := km.at k_x1 (by decide)
  replace k_x2 := km.at k_x2 (by decide)
  replace k_x3 := km.at k_x3 (by decide)
  exact bX6_init_8 C k_x0 k_x1 k_x2 k_x3 k_a_1 k_x0 hkl hW hZ _ (lv_sub hl [0, 1, 2, 3] rfl) hE
set_option maxRecDepth 100000 in
theorem m_454 : Cond.methodLink RX0 5 objectInit ∈ W0 := w0_in (List.mem_append_right _ (List.mem_of_getElem? (i := 454) rfl)) rfl
set_option maxRecDepth 100000 in
theorem m_455 : Cond.classLink RX0 11 RX3 ∈ W0 := w0_in (List.mem_append_right _ (List.mem_of_getElem? (i := 455) rfl)) rfl
set_option maxRecDepth 100000 in
theorem m_456 : Cond.methodLink RX0 13 yX3_init ∈ W0 := w0_in (List.mem_append_right _ (List.mem_of_getElem? (i := 456) rfl)) rfl
set_option maxRecDepth 100000 in
theorem m_457 : Cond.fieldLink RX0 40 (TX0 0).1 (TX0 0).2.1 (TX0 0).2.2.1 ∈ W0 := w0_in (List.mem_append_right _ (List.mem_of_getElem? (i := 457) rfl)) rfl
set_option maxRecDepth 100000 in
theorem m_458 : Cond.fieldLink RX0 44 (TX0 1).1 (TX0 1).2.1 (TX0 1).2.2.1 ∈ W0 := w0_in (List.mem_append_right _ (List.mem_of_getElem? (i := 458) rfl)) rfl
set_option maxRecDepth 100000 in
theorem m_459 : Cond.fieldLink RX0 48 (TX0 2).1 (TX0 2).2.1 (TX0 2).2.2.1 ∈ W0 := w0_in (List.mem_append_right _ (List.mem_of_getElem? (i := 459) rfl)) rfl
set_option maxRecDepth 100000 in
theorem m_460 : Cond.fieldLink RX0 14 (TX0 3).1 (TX0 3).2.1 (TX0 3).2.2.1 ∈ W0 := w0_in (List.mem_append_right _ (List.mem_of_getElem? (i := 460) rfl)) rfl
set_option maxRecDepth 100000 in
theorem m_461 : Cond.fieldLink RX0 18 (TX0 4).1 (TX0 4).2.1 (TX0 4).2.2.1 ∈ W0 := w0_in (List.mem_append_right _ (List.mem_of_getElem? (i := 461) rfl)) rfl
set_option maxRecDepth 100000 in
theorem m_462 : Cond.fieldLink RX0 22 (TX0 5).1 (TX0 5).2.1 (TX0 5).2.2.1 ∈ W0 := w0_in (List.mem_append_right _ (List.mem_of_getElem? (i := 462) rfl)) rfl
set_option maxRecDepth 100000 in
theorem m_463 : Cond.fieldLink RX0 25 (TX0 6).1 (TX0 6).2.1 (TX0 6).2.2.1 ∈ W0 := w0_in (List.mem_append_right _ (List.mem_of_getElem? (i := 463) rfl)) rfl
set_option maxRecDepth 100000 in
theorem m_464 : Cond.fieldLink RX0 28 (TX0 7).1 (TX0 7).2.1 (TX0 7).2.2.1 ∈ W0 := w0_in (List.mem_append_right _ (List.mem_of_getElem? (i := 464) rfl)) rfl
set_option maxRecDepth 100000 in
theorem m_470 : Cond.fieldLink RX0 31 (TX0 11).1 (TX0 11).2.1 (TX0 11).2.2.1 ∈ W0 := w0_in (List.mem_append_right _ (List.mem_of_getElem? (i := 470) rfl)) rfl
set_option maxRecDepth 100000 in
theorem m_472 : Cond.fieldLink RX0 34 (TX0 12).1 (TX0 12).2.1 (TX0 12).2.2.1 ∈ W0 := w0_in (List.mem_append_right _ (List.mem_of_getElem? (i := 472) rfl)) rfl
set_option maxRecDepth 100000 in
theorem m_473 : Cond.fieldLink RX0 37 (TX0 13).1 (TX0 13).2.1 (TX0 13).2.2.1 ∈ W0 := w0_in (List.mem_append_right _ (List.mem_of_getElem? (i := 473) rfl)) rfl
theorem i_X0 : ∀ w ∈ u_ws RX0 TX0 19, w ∈ W0 := by
  intro w hw
  exact w0_in (List.mem_append_right _ ((by decide +kernel : ∀ w ∈ u_ws RX0 TX0 19, w ∈ tables_1) w hw)) ((by decide +kernel : ∀ w ∈ u_ws RX0 TX0 19, goodWord w = true) w hw)
section
variable {p : Program} {l : Launch} {e : Env} {R : Room} {s : State} {m : MethodId} {args : Array Value} {below : List Frame} {meth : Method} {c : Code} {H : Heap} {locs : List Loc} {cells slots : Nat} {Q : State → Prop}
variable {cc : ByteArray} {pc : Nat} {ls : Array Slot} {rest : List Value} {X : Ec} {h h1 : Hp} {nL : Nat} {rt : Option FieldType} {mn : String}
theorem pf_X0_37 {a r : Nat} (C : Cx X p s m args meth c RX0 cc nL rt mn) (hW : Wx X h H) (hZ : va_S (aA (eB X)) s.heap H locs) (ha : hK h a = 0) (hr : hK h r = 17) (eh : h1 = wR h a 13 (some r)) (hdg : decode cc pc = .ok (.putfield 37, 3)) (kk : ∀ (H1 : Heap) (locs1 : List Loc), Wx X h1 H1 → Km h h1 → va_S (aA (eB X)) s.heap H1 locs1 → W p l e R s m args below meth c H1 locs1 cells slots Q (F0 m (pc + 3) ls rest)) : W p l e R s m args below meth c H locs cells slots Q (F0 m pc ls (.ref r :: .ref a :: rest)) :=
  y_putr (ty := .array .int) C hW hZ ha i_X0 tyX0 tyX0_ok nmX0 (by decide) rfl rfl (by decide) m_473 rfl (by decide +kernel) rfl rfl rfl hr rfl (by decide) eh hdg kk
theorem pf_X0_40 {a r : Nat} (C : Cx X p s m args meth c RX0 cc nL rt mn) (hW : Wx X h H) (hZ : va_S (aA (eB X)) s.heap H locs) (hmn : mn = "<init>") (ha : hK h a = 0) (hr : hK h r = 1) (eh : h1 = wR h a 0 (some r)) (hdg : decode cc pc = .ok (.putfield 40, 3)) (kk : ∀ (H1 : Heap) (locs1 : List Loc), Wx X h1 H1 → Km h h1 → va_S (aA (eB X)) s.heap H1 locs1 → W p l e R s m args below meth c H1 locs1 cells slots Q (F0 m (pc + 3) ls rest)) : W p l e R s m args below meth c H locs cells slots Q (F0 m pc ls (.ref r :: .ref a :: rest)) :=
  y_putrF (ty := .object "GameRules$Law") C hW hZ ha i_X0 tyX0 tyX0_ok nmX0 (by decide) rfl rfl (by decide) m_457 rfl hmn rfl (by decide +kernel) rfl rfl rfl hr rfl (by decide) eh hdg kk
theorem pf_X0_44 {a r : Nat} (C : Cx X p s m args meth c RX0 cc nL rt mn) (hW : Wx X h H) (hZ : va_S (aA (eB X)) s.heap H locs) (hmn : mn = "<init>") (ha : hK h a = 0) (hr : hK h r = 10) (eh : h1 = wR h a 1 (some r)) (hdg : decode cc pc = .ok (.putfield 44, 3)) (kk : ∀ (H1 : Heap) (locs1 : List Loc), Wx X h1 H1 → Km h h1 → va_S (aA (eB X)) s.heap H1 locs1 → W p l e R s m args below meth c H1 locs1 cells slots Q (F0 m (pc + 3) ls rest)) : W p l e R s m args below meth c H locs cells slots Q (F0 m pc ls (.ref r :: .ref a :: rest)) :=
  y_putrF (ty := .object "GameRules$Ways") C hW hZ ha i_X0 tyX0 tyX0_ok nmX0 (by decide) rfl rfl (by decide) m_458 rfl hmn rfl (by decide +kernel) rfl rfl rfl hr rfl (by decide) eh hdg kk
theorem pf_X0_48 {a r : Nat} (C : Cx X p s m args meth c RX0 cc nL rt mn) (hW : Wx X h H) (hZ : va_S (aA (eB X)) s.heap H locs) (hmn : mn = "<init>") (ha : hK h a = 0) (hr : hK h r = 5) (eh : h1 = wR h a 2 (some r)) (hdg : decode cc pc = .ok (.putfield 48, 3)) (kk : ∀ (H1 : Heap) (locs1 : List Loc), Wx X h1 H1 → Km h h1 → va_S (aA (eB X)) s.heap H1 locs1 → W p l e R s m args below meth c H1 locs1 cells slots Q (F0 m (pc + 3) ls rest)) : W p l e R s m args below meth c H locs cells slots Q (F0 m pc ls (.ref r :: .ref a :: rest)) :=
  y_putrF (ty := .object "GameRules$Referee") C hW hZ ha i_X0 tyX0 tyX0_ok nmX0 (by decide) rfl rfl (by decide) m_459 rfl hmn rfl (by decide +kernel) rfl rfl rfl hr rfl (by decide) eh hdg kk
theorem pf_X0_34 {a r : Nat} (C : Cx X p s m args meth c RX0 cc nL rt mn) (hW : Wx X h H) (hZ : va_S (aA (eB X)) s.heap H locs) (ha : hK h a = 0) (hr : hK h r = 17) (eh : h1 = wR h a 12 (some r)) (hdg : decode cc pc = .ok (.putfield 34, 3)) (kk : ∀ (H1 : Heap) (locs1 : List Loc), Wx X h1 H1 → Km h h1 → va_S (aA (eB X)) s.heap H1 locs1 → W p l e R s m args below meth c H1 locs1 cells slots Q (F0 m (pc + 3) ls rest)) : W p l e R s m args below meth c H locs cells slots Q (F0 m pc ls (.ref r :: .ref a :: rest)) :=
  y_putr (ty := .array .int) C hW hZ ha i_X0 tyX0 tyX0_ok nmX0 (by decide) rfl rfl (by decide) m_472 rfl (by decide +kernel) rfl rfl rfl hr rfl (by decide) eh hdg kk
theorem pf_X0_31 {a r : Nat} (C : Cx X p s m args meth c RX0 cc nL rt mn) (hW : Wx X h H) (hZ : va_S (aA (eB X)) s.heap H locs) (ha : hK h a = 0) (hr : hK h r = 17) (eh : h1 = wR h a 11 (some r)) (hdg : decode cc pc = .ok (.putfield 31, 3)) (kk : ∀ (H1 : Heap) (locs1 : List Loc), Wx X h1 H1 → Km h h1 → va_S (aA (eB X)) s.heap H1 locs1 → W p l e R s m args below meth c H1 locs1 cells slots Q (F0 m (pc + 3) ls rest)) : W p l e R s m args below meth c H locs cells slots Q (F0 m pc ls (.ref r :: .ref a :: rest)) :=
  y_putr (ty := .array .int) C hW hZ ha i_X0 tyX0 tyX0_ok nmX0 (by decide) rfl rfl (by decide) m_470 rfl (by decide +kernel) rfl rfl rfl hr rfl (by decide) eh hdg kk
theorem pf_X0_28 {a r : Nat} (C : Cx X p s m args meth c RX0 cc nL rt mn) (hW : Wx X h H) (hZ : va_S (aA (eB X)) s.heap H locs) (hmn : mn = "<init>") (ha : hK h a = 0) (hr : hK h r = 17) (eh : h1 = wR h a 7 (some r)) (hdg : decode cc pc = .ok (.putfield 28, 3)) (kk : ∀ (H1 : Heap) (locs1 : List Loc), Wx X h1 H1 → Km h h1 → va_S (aA (eB X)) s.heap H1 locs1 → W p l e R s m args below meth c H1 locs1 cells slots Q (F0 m (pc + 3) ls rest)) : W p l e R s m args below meth c H locs cells slots Q (F0 m pc ls (.ref r :: .ref a :: rest)) :=
  y_putrF (ty := .array .int) C hW hZ ha i_X0 tyX0 tyX0_ok nmX0 (by decide) rfl rfl (by decide) m_464 rfl hmn rfl (by decide +kernel) rfl rfl rfl hr rfl (by decide) eh hdg kk
theorem pf_X0_25 {a r : Nat} (C : Cx X p s m args meth c RX0 cc nL rt mn) (hW : Wx X h H) (hZ : va_S (aA (eB X)) s.heap H locs) (hmn : mn = "<init>") (ha : hK h a = 0) (hr : hK h r = 17) (eh : h1 = wR h a 6 (some r)) (hdg : decode cc pc = .ok (.putfield 25, 3)) (kk : ∀ (H1 : Heap) (locs1 : List Loc), Wx X h1 H1 → Km h h1 → va_S (aA (eB X)) s.heap H1 locs1 → W p l e R s m args below meth c H1 locs1 cells slots Q (F0 m (pc + 3) ls rest)) : W p l e R s m args below meth c H locs cells slots Q (F0 m pc ls (.ref r :: .ref a :: rest)) :=
  y_putrF (ty := .array .int) C hW hZ ha i_X0 tyX0 tyX0_ok nmX0 (by decide) rfl rfl (by decide) m_463 rfl hmn rfl (by decide +kernel) rfl rfl rfl hr rfl (by decide) eh hdg kk
theorem pf_X0_22 {a r : Nat} (C : Cx X p s m args meth c RX0 cc nL rt mn) (hW : Wx X h H) (hZ : va_S (aA (eB X)) s.heap H locs) (hmn : mn = "<init>") (ha : hK h a = 0) (hr : hK h r = 17) (eh : h1 = wR h a 5 (some r)) (hdg : decode cc pc = .ok (.putfield 22, 3)) (kk : ∀ (H1 : Heap) (locs1 : List Loc), Wx X h1 H1 → Km h h1 → va_S (aA (eB X)) s.heap H1 locs1 → W p l e R s m args below meth c H1 locs1 cells slots Q (F0 m (pc + 3) ls rest)) : W p l e R s m args below meth c H locs cells slots Q (F0 m pc ls (.ref r :: .ref a :: rest)) :=
  y_putrF (ty := .array .int) C hW hZ ha i_X0 tyX0 tyX0_ok nmX0 (by decide) rfl rfl (by decide) m_462 rfl hmn rfl (by decide +kernel) rfl rfl rfl hr rfl (by decide) eh hdg kk
theorem pf_X0_18 {a r : Nat} (C : Cx X p s m args meth c RX0 cc nL rt mn) (hW : Wx X h H) (hZ : va_S (aA (eB X)) s.heap H locs) (hmn : mn = "<init>") (ha : hK h a = 0) (hr : hK h r = 17) (eh : h1 = wR h a 4 (some r)) (hdg : decode cc pc = .ok (.putfield 18, 3)) (kk : ∀ (H1 : Heap) (locs1 : List Loc), Wx X h1 H1 → Km h h1 → va_S (aA (eB X)) s.heap H1 locs1 → W p l e R s m args below meth c H1 locs1 cells slots Q (F0 m (pc + 3) ls rest)) : W p l e R s m args below meth c H locs cells slots Q (F0 m pc ls (.ref r :: .ref a :: rest)) :=
  y_putrF (ty := .array .int) C hW hZ ha i_X0 tyX0 tyX0_ok nmX0 (by decide) rfl rfl (by decide) m_461 rfl hmn rfl (by decide +kernel) rfl rfl rfl hr rfl (by decide) eh hdg kk
theorem pf_X0_14 {a r : Nat} (C : Cx X p s m args meth c RX0 cc nL rt mn) (hW : Wx X h H) (hZ : va_S (aA (eB X)) s.heap H locs) (hmn : mn = "<init>") (ha : hK h a = 0) (hr : hK h r = 3) (eh : h1 = wR h a 3 (some r)) (hdg : decode cc pc = .ok (.putfield 14, 3)) (kk : ∀ (H1 : Heap) (locs1 : List Loc), Wx X h1 H1 → Km h h1 → va_S (aA (eB X)) s.heap H1 locs1 → W p l e R s m args below meth c H1 locs1 cells slots Q (F0 m (pc + 3) ls rest)) : W p l e R s m args below meth c H locs cells slots Q (F0 m pc ls (.ref r :: .ref a :: rest)) :=
  y_putrF (ty := .object "GameRules$Position") C hW hZ ha i_X0 tyX0 tyX0_ok nmX0 (by decide) rfl rfl (by decide) m_460 rfl hmn rfl (by decide +kernel) rfl rfl rfl hr rfl (by decide) eh hdg kk
end
theorem ci_X0_13 : cwi RX0 13 yX3_init cX3_init 1 0 := ⟨m_269, m_456, m_8, m_268, rfl, by decide, by decide, by decide +kernel⟩
theorem dX0_init_0 : decode cX0_init 0 = .ok (.aload_n 0, 1) := by decide +kernel
theorem dX0_init_1 : decode cX0_init 1 = .ok (.invokespecial 5, 3) := by decide +kernel
theorem dX0_init_4 : decode cX0_init 4 = .ok (.aload_n 0, 1) := by decide +kernel
theorem dX0_init_5 : decode cX0_init 5 = .ok (.new 11, 3) := by decide +kernel
theorem dX0_init_8 : decode cX0_init 8 = .ok (.dup, 1) := by decide +kernel
theorem dX0_init_9 : decode cX0_init 9 = .ok (.invokespecial 13, 3) := by decide +kernel
theorem dX0_init_12 : decode cX0_init 12 = .ok (.putfield 14, 3) := by decide +kernel
theorem dX0_init_15 : decode cX0_init 15 = .ok (.aload_n 0, 1) := by decide +kernel
theorem dX0_init_16 : decode cX0_init 16 = .ok (.sipush 1024, 3) := by decide +kernel
theorem dX0_init_19 : decode cX0_init 19 = .ok (.newarray .int, 2) := by decide +kernel
theorem dX0_init_21 : decode cX0_init 21 = .ok (.putfield 18, 3) := by decide +kernel
theorem dX0_init_24 : decode cX0_init 24 = .ok (.aload_n 0, 1) := by decide +kernel
theorem dX0_init_25 : decode cX0_init 25 = .ok (.sipush 1025, 3) := by decide +kernel
theorem dX0_init_28 : decode cX0_init 28 = .ok (.newarray .int, 2) := by decide +kernel
theorem dX0_init_30 : decode cX0_init 30 = .ok (.putfield 22, 3) := by decide +kernel
theorem dX0_init_33 : decode cX0_init 33 = .ok (.aload_n 0, 1) := by decide +kernel
theorem dX0_init_34 : decode cX0_init 34 = .ok (.bipush 6, 2) := by decide +kernel
theorem dX0_init_36 : decode cX0_init 36 = .ok (.newarray .int, 2) := by decide +kernel
theorem dX0_init_38 : decode cX0_init 38 = .ok (.putfield 25, 3) := by decide +kernel
theorem dX0_init_41 : decode cX0_init 41 = .ok (.aload_n 0, 1) := by decide +kernel
theorem dX0_init_42 : decode cX0_init 42 = .ok (.iconst 5, 1) := by decide +kernel
theorem dX0_init_43 : decode cX0_init 43 = .ok (.newarray .int, 2) := by decide +kernel
theorem dX0_init_45 : decode cX0_init 45 = .ok (.putfield 28, 3) := by decide +kernel
theorem dX0_init_48 : decode cX0_init 48 = .ok (.aload_n 0, 1) := by decide +kernel
theorem dX0_init_49 : decode cX0_init 49 = .ok (.iconst 0, 1) := by decide +kernel
theorem dX0_init_50 : decode cX0_init 50 = .ok (.newarray .int, 2) := by decide +kernel
theorem dX0_init_52 : decode cX0_init 52 = .ok (.putfield 31, 3) := by decide +kernel
theorem dX0_init_55 : decode cX0_init 55 = .ok (.aload_n 0, 1) := by decide +kernel
theorem dX0_init_56 : decode cX0_init 56 = .ok (.iconst 0, 1) := by decide +kernel
theorem dX0_init_57 : decode cX0_init 57 = .ok (.newarray .int, 2) := by decide +kernel
theorem dX0_init_59 : decode cX0_init 59 = .ok (.putfield 34, 3) := by decide +kernel
theorem dX0_init_62 : decode cX0_init 62 = .ok (.aload_n 0, 1) := by decide +kernel
theorem dX0_init_63 : decode cX0_init 63 = .ok (.iconst 0, 1) := by decide +kernel
theorem dX0_init_64 : decode cX0_init 64 = .ok (.newarray .int, 2) := by decide +kernel
theorem dX0_init_66 : decode cX0_init 66 = .ok (.putfield 37, 3) := by decide +kernel
theorem dX0_init_69 : decode cX0_init 69 = .ok (.aload_n 0, 1) := by decide +kernel
theorem dX0_init_70 : decode cX0_init 70 = .ok (.aload_n 1, 1) := by decide +kernel
theorem dX0_init_71 : decode cX0_init 71 = .ok (.putfield 40, 3) := by decide +kernel
theorem dX0_init_74 : decode cX0_init 74 = .ok (.aload_n 0, 1) := by decide +kernel
theorem dX0_init_75 : decode cX0_init 75 = .ok (.aload_n 2, 1) := by decide +kernel
theorem dX0_init_76 : decode cX0_init 76 = .ok (.putfield 44, 3) := by decide +kernel
theorem dX0_init_79 : decode cX0_init 79 = .ok (.aload_n 0, 1) := by decide +kernel
theorem dX0_init_80 : decode cX0_init 80 = .ok (.aload_n 3, 1) := by decide +kernel
theorem dX0_init_81 : decode cX0_init 81 = .ok (.putfield 48, 3) := by decide +kernel
theorem dX0_init_84 : decode cX0_init 84 = .ok (.return_, 1) := by decide +kernel
set_option maxRecDepth 20000 in
theorem moX0_init_66 {o : Hp} {F : Nat} {h : Hp} {x0 : Nat} {x1 : Nat} {x2 : Nat} {x3 : Nat} {t0 : Nat} {t1 : Nat} (hE : sX0_init_66 F h x0 x1 x2 x3 t0 t1 = some o) : Le h o := by
  obtain ⟨h_1, eh_1, hE⟩ := nm_e2 hE
  refine (le_R eh_1).tr ?_
  obtain ⟨h_2, eh_2, hE⟩ := nm_e2 hE
  refine (le_R eh_2).tr ?_
  obtain ⟨h_3, eh_3, hE⟩ := nm_e2 hE
  refine (le_R eh_3).tr ?_
  obtain ⟨h_4, eh_4, hE⟩ := nm_e2 hE
  refine (le_R eh_4).tr ?_
  exact le_some1 hE
set_option maxRecDepth 20000 in
theorem moX0_init_59 {o : Hp} {F : Nat} {h : Hp} {x0 : Nat} {x1 : Nat} {x2 : Nat} {x3 : Nat} {t0 : Nat} {t1 : Nat} (hE : sX0_init_59 F h x0 x1 x2 x3 t0 t1 = some o) : Le h o := by
  obtain ⟨h_1, eh_1, hE⟩ := nm_e2 hE
  refine (le_R eh_1).tr ?_
  obtain ⟨a_2, ea_2, hE⟩ := nm_e2 hE
  obtain ⟨h_3, eh_3, hE⟩ := nm_e2 hE
  refine (le_C eh_3).tr ?_
  exact moX0_init_66 hE
set_option maxRecDepth 20000 in
theorem moX0_init_52 {o : Hp} {F : Nat} {h : Hp} {x0 : Nat} {x1 : Nat} {x2 : Nat} {x3 : Nat} {t0 : Nat} {t1 : Nat} (hE : sX0_init_52 F h x0 x1 x2 x3 t0 t1 = some o) : Le h o := by
  obtain ⟨h_1, eh_1, hE⟩ := nm_e2 hE
  refine (le_R eh_1).tr ?_
  obtain ⟨a_2, ea_2, hE⟩ := nm_e2 hE
  obtain ⟨h_3, eh_3, hE⟩ := nm_e2 hE
  refine (le_C eh_3).tr ?_
  exact moX0_init_59 hE
set_option maxRecDepth 20000 in
theorem moX0_init_45 {o : Hp} {F : Nat} {h : Hp} {x0 : Nat} {x1 : Nat} {x2 : Nat} {x3 : Nat} {t0 : Nat} {t1 : Nat} (hE : sX0_init_45 F h x0 x1 x2 x3 t0 t1 = some o) : Le h o := by
  obtain ⟨h_1, eh_1, hE⟩ := nm_e2 hE
  refine (le_R eh_1).tr ?_
  obtain ⟨a_2, ea_2, hE⟩ := nm_e2 hE
  obtain ⟨h_3, eh_3, hE⟩ := nm_e2 hE
  refine (le_C eh_3).tr ?_
  exact moX0_init_52 hE
set_option maxRecDepth 20000 in
theorem moX0_init_38 {o : Hp} {F : Nat} {h : Hp} {x0 : Nat} {x1 : Nat} {x2 : Nat} {x3 : Nat} {t0 : Nat} {t1 : Nat} (hE : sX0_init_38 F h x0 x1 x2 x3 t0 t1 = some o) : Le h o := by
  obtain ⟨h_1, eh_1, hE⟩ := nm_e2 hE
  refine (le_R eh_1).tr ?_
  obtain ⟨a_2, ea_2, hE⟩ := nm_e2 hE
  obtain ⟨h_3, eh_3, hE⟩ := nm_e2 hE
  refine (le_C eh_3).tr ?_
  exact moX0_init_45 hE
set_option maxRecDepth 20000 in
theorem moX0_init_30 {o : Hp} {F : Nat} {h : Hp} {x0 : Nat} {x1 : Nat} {x2 : Nat} {x3 : Nat} {t0 : Nat} {t1 : Nat} (hE : sX0_init_30 F h x0 x1 x2 x3 t0 t1 = some o) : Le h o := by
  obtain ⟨h_1, eh_1, hE⟩ := nm_e2 hE
  refine (le_R eh_1).tr ?_
  obtain ⟨a_2, ea_2, hE⟩ := nm_e2 hE
  obtain ⟨h_3, eh_3, hE⟩ := nm_e2 hE
  refine (le_C eh_3).tr ?_
  exact moX0_init_38 hE
set_option maxRecDepth 20000 in
theorem moX0_init_21 {o : Hp} {F : Nat} {h : Hp} {x0 : Nat} {x1 : Nat} {x2 : Nat} {x3 : Nat} {t0 : Nat} {t1 : Nat} (hE : sX0_init_21 F h x0 x1 x2 x3 t0 t1 = some o) : Le h o := by
  obtain ⟨h_1, eh_1, hE⟩ := nm_e2 hE
  refine (le_R eh_1).tr ?_
  obtain ⟨a_2, ea_2, hE⟩ := nm_e2 hE
  obtain ⟨h_3, eh_3, hE⟩ := nm_e2 hE
  refine (le_C eh_3).tr ?_
  exact moX0_init_30 hE
set_option maxRecDepth 20000 in
theorem moX0_init_12 {o : Hp} {F : Nat} {h : Hp} {x0 : Nat} {x1 : Nat} {x2 : Nat} {x3 : Nat} {t0 : Nat} {t1 : Nat} (hE : sX0_init_12 F h x0 x1 x2 x3 t0 t1 = some o) : Le h o := by
  obtain ⟨h_1, eh_1, hE⟩ := nm_e2 hE
  refine (le_R eh_1).tr ?_
  obtain ⟨a_2, ea_2, hE⟩ := nm_e2 hE
  obtain ⟨h_3, eh_3, hE⟩ := nm_e2 hE
  refine (le_C eh_3).tr ?_
  exact moX0_init_21 hE
set_option maxRecDepth 20000 in
theorem moX0_init_8 {o : Hp} {F : Nat} {h : Hp} {x0 : Nat} {x1 : Nat} {x2 : Nat} {x3 : Nat} {t0 : Nat} {t1 : Nat} (hE : sX0_init_8 F h x0 x1 x2 x3 t0 t1 = some o) : Le h o := by
  obtain ⟨o_1, eo_1, hE⟩ := cl_e hE
  refine (moX3_init eo_1).tr ?_
  exact moX0_init_12 hE
set_option maxRecDepth 20000 in
theorem moX0_init {o : Hp} {F : Nat} {h : Hp} {x0 : Nat} {x1 : Nat} {x2 : Nat} {x3 : Nat} (hE : sX0_init F h x0 x1 x2 x3 = some o) : Le h o := by
  obtain ⟨a_1, ea_1, hE⟩ := nm_e2 hE
  obtain ⟨h_2, eh_2, hE⟩ := nm_e2 hE
  refine (le_C eh_2).tr ?_
  exact moX0_init_8 hE
set_option maxRecDepth 20000 in
theorem bX0_init_66 {p : Program} {l : Launch} {e : Env} {s : State} {m : MethodId} {args : Array Value} {below : List Frame} {meth : Method} {c : Code} {X : Ec} {h0 : Hp} {o : Hp} {F : Nat} (C : Cx X p s m args meth c RX0 cX0_init 4 none "<init>") {h : Hp} {x0 : Nat} {x1 : Nat} {x2 : Nat} {x3 : Nat} {t0 : Nat} {t1 : Nat} {H : Heap} {locs : List Loc} (k_x0 : hK h x0 = 0) (k_x1 : hK h x1 = 1) (k_x2 : hK h x2 = 10) (k_x3 : hK h x3 = 5) (k_t0 : hK h t0 = 17) (k_t1 : hK h t1 = 0) (hkl : Kl h0 h) (hW : Wx X h H) (hZ : va_S (aA (eB X)) s.heap H locs) (ls : Array Slot) (hl : lv_has ls 4 [(0, .ref x0), (1, .ref x1), (2, .ref x2), (3, .ref x3)]) (hE : sX0_init_66 F h x0 x1 x2 x3 t0 t1 = some o) : W p l e (rmA 2 43 h0 o) s m args below meth c H locs (hS h - hS h0) (hL h - hL h0) (MQ below (QVA X h0 o) args s (hS o - hS h0) (hL o - hL h0) (aA (eB X))) (F0 m 66 ls [.ref t0, .ref t1]) := by
  obtain ⟨h_1, eh_1, hE⟩ := nm_e2 hE
  refine pf_X0_37 C hW hZ k_t1 k_t0 eh_1 dX0_init_66 (fun _ _ hW km hZ => ?_)
  replace hkl := hkl.tr km.l
  refine x_wc km ?_
  replace k_x0 := km.at k_x0 (by decide)
  replace k_x1 := km.at k_x1 (by decide)
  replace k_x2 := km.at k_x2 (by decide)
  replace k_x3 := km.at k_x3 (by decide)
  refine lv_aload_n C.1 C.2.1 dX0_init_69 rfl (lv_at hl 0 rfl) ?_
  refine lv_aload_n C.1 C.2.1 dX0_init_70 rfl (lv_at hl 1 rfl) ?_
  obtain ⟨h_2, eh_2, hE⟩ := nm_e2 hE
  refine pf_X0_40 C hW hZ rfl k_x0 k_x1 eh_2 dX0_init_71 (fun _ _ hW km hZ => ?_)
  replace hkl := hkl.tr km.l
  refine x_wc km ?_
  replace k_x0 := km.at k_x0 (by decide)
  replace k_x1 := km.at k_x1 (by decide)
  replace k_x2 := km.at k_x2 (by decide)
  replace k_x3 := km.at k_x3 (by decide)
  refine lv_aload_n C.1 C.2.1 dX0_init_74 rfl (lv_at hl 0 rfl) ?_
  refine lv_aload_n C.1 C.2.1 dX0_init_75 rfl (lv_at hl 2 rfl) ?_
  obtain ⟨h_3, eh_3, hE⟩ := nm_e2 hE
  refine pf_X0_44 C hW hZ rfl k_x0 k_x2 eh_3 dX0_init_76 (fun _ _ hW km hZ => ?_)
  replace hkl := hkl.tr km.l
  refine x_wc km ?_
  replace k_x0 := km.at k_x0 (by decide)
  replace k_x1 := km.at k_x1 (by decide)
  replace k_x2 := km.at k_x2 (by decide)
  replace k_x3 := km.at k_x3 (by decide)
  refine lv_aload_n C.1 C.2.1 dX0_init_79 rfl (lv_at hl 0 rfl) ?_
  refine lv_aload_n C.1 C.2.1 dX0_init_80 rfl (lv_at hl 3 rfl) ?_
  obtain ⟨h_4, eh_4, hE⟩ := nm_e2 hE
  refine pf_X0_48 C hW hZ rfl k_x0 k_x3 eh_4 dX0_init_81 (fun _ _ hW km hZ => ?_)
  replace hkl := hkl.tr km.l
  refine x_wc km ?_
  replace k_x0 := km.at k_x0 (by decide)
  replace k_x1 := km.at k_x1 (by decide)
  replace k_x2 := km.at k_x2 (by decide)
  replace k_x3 := km.at k_x3 (by decide)
  exact x_vretA C rfl hW hZ hkl hE dX0_init_84
set_option maxRecDepth 20000 in
theorem bX0_init_59 {p : Program} {l : Launch} {e : Env} {s : State} {m : MethodId} {args : Array Value} {below : List Frame} {meth : Method} {c : Code} {X : Ec} {h0 : Hp} {o : Hp} {F : Nat} (C : Cx X p s m args meth c RX0 cX0_init 4 none "<init>") {h : Hp} {x0 : Nat} {x1 : Nat} {x2 : Nat} {x3 : Nat} {t0 : Nat} {t1 : Nat} {H : Heap} {locs : List Loc} (k_x0 : hK h x0 = 0) (k_x1 : hK h x1 = 1) (k_x2 : hK h x2 = 10) (k_x3 : hK h x3 = 5) (k_t0 : hK h t0 = 17) (k_t1 : hK h t1 = 0) (hkl : Kl h0 h) (hW : Wx X h H) (hZ : va_S (aA (eB X)) s.heap H locs) (ls : Array Slot) (hl : lv_has ls 4 [(0, .ref x0), (1, .ref x1), (2, .ref x2), (3, .ref x3)]) (hE : sX0_init_59 F h x0 x1 x2 x3 t0 t1 = some o) : W p l e (rmA 2 43 h0 o) s m args below meth c H locs (hS h - hS h0) (hL h - hL h0) (MQ below (QVA X h0 o) args s (hS o - hS h0) (hL o - hL h0) (aA (eB X))) (F0 m 59 ls [.ref t0, .ref t1]) := by
  obtain ⟨h_1, eh_1, hE⟩ := nm_e2 hE
  refine pf_X0_34 C hW hZ k_t1 k_t0 eh_1 dX0_init_59 (fun _ _ hW km hZ => ?_)
  replace hkl := hkl.tr km.l
  refine x_wc km ?_
  replace k_x0 := km.at k_x0 (by decide)
  replace k_x1 := km.at k_x1 (by decide)
  replace k_x2 := km.at k_x2 (by decide)
  replace k_x3 := km.at k_x3 (by decide)
  refine lv_aload_n C.1 C.2.1 dX0_init_62 rfl (lv_at hl 0 rfl) ?_
  refine lv_iconst (v := (0 : Int32)) C.1 C.2.1 dX0_init_63 (by decide) ?_
  obtain ⟨a_2, ea_2, hE⟩ := nm_e2 hE
  obtain ⟨h_3, eh_3, hE⟩ := nm_e2 hE
  refine y_newa (k := 17) (ty := .int) (t0 := 1) C hW hZ hkl (moX0_init_66 hE) ⟨rfl, rfl⟩ (by decide) (by decide) rfl rfl (by intro C hC; cases hC) hdef_17 m_54 (by decide) (by decide) eh_3 dX0_init_64 (fun _ hW km k_a_2 hZ => ?_)
  replace hkl := hkl.tr km
  refine x_nmA ea_2 ?_
  rw [← ea_2] at k_a_2
  replace k_x0 := km.at k_x0 (by decide)
  replace k_x1 := km.at k_x1 (by decide)
  replace k_x2 := km.at k_x2 (by decide)
  replace k_x3 := km.at k_x3 (by decide)
  exact bX0_init_66 C k_x0 k_x1 k_x2 k_x3 k_a_2 k_x0 hkl hW hZ _ (lv_sub hl [0, 1, 2, 3] rfl) hE
set_option maxRecDepth 20000 in
theorem bX0_init_52 {p : Program} {l : Launch} {e : Env} {s : State} {m : MethodId} {args : Array Value} {below : List Frame} {meth : Method} {c : Code} {X : Ec} {h0 : Hp} {o : Hp} {F : Nat} (C : Cx X p s m args meth c RX0 cX0_init 4 none "<init>") {h : Hp} {x0 : Nat} {x1 : Nat} {x2 : Nat} {x3 : Nat} {t0 : Nat} {t1 : Nat} {H : Heap} {locs : List Loc} (k_x0 : hK h x0 = 0) (k_x1 : hK h x1 = 1) (k_x2 : hK h x2 = 10) (k_x3 : hK h x3 = 5) (k_t0 : hK h t0 = 17) (k_t1 : hK h t1 = 0) (hkl : Kl h0 h) (hW : Wx X h H) (hZ : va_S (aA (eB X)) s.heap H locs) (ls : Array Slot) (hl : lv_has ls 4 [(0, .ref x0), (1, .ref x1), (2, .ref x2), (3, .ref x3)]) (hE : sX0_init_52 F h x0 x1 x2 x3 t0 t1 = some o) : W p l e (rmA 2 43 h0 o) s m args below meth c H locs (hS h - hS h0) (hL h - hL h0) (MQ below (QVA X h0 o) args s (hS o - hS h0) (hL o - hL h0) (aA (eB X))) (F0 m 52 ls [.ref t0, .ref t1]) := by
  obtain ⟨h_1, eh_1, hE⟩ := nm_e2 hE
  refine pf_X0_31 C hW hZ k_t1 k_t0 eh_1 dX0_init_52 (fun _ _ hW km hZ => ?_)
  replace hkl := hkl.tr km.l
  refine x_wc km ?_
  replace k_x0 := km.at k_x0 (by decide)
  replace k_x1 := km.at k_x1 (by decide)
  replace k_x2 := km.at k_x2 (by decide)
  replace k_x3 := km.at k_x3 (by decide)
  refine lv_aload_n C.1 C.2.1 dX0_init_55 rfl (lv_at hl 0 rfl) ?_
  refine lv_iconst (v := (0 : Int32)) C.1 C.2.1 dX0_init_56 (by decide) ?_
  obtain ⟨a_2, ea_2, hE⟩ := nm_e2 hE
  obtain ⟨h_3, eh_3, hE⟩ := nm_e2 hE
  refine y_newa (k := 17) (ty := .int) (t0 := 1) C hW hZ hkl (moX0_init_59 hE) ⟨rfl, rfl⟩ (by decide) (by decide) rfl rfl (by intro C hC; cases hC) hdef_17 m_54 (by decide) (by decide) eh_3 dX0_init_57 (fun _ hW km k_a_2 hZ => ?_)
  replace hkl := hkl.tr km
  refine x_nmA ea_2 ?_
  rw [← ea_2] at k_a_2
  replace k_x0 := km.at k_x0 (by decide)
  replace k_x1 := km.at k_x1 (by decide)
  replace k_x2 := km.at k_x2 (by decide)
  replace k_x3 := km.at k_x3 (by decide)
  exact bX0_init_59 C k_x0 k_x1 k_x2 k_x3 k_a_2 k_x0 hkl hW hZ _ (lv_sub hl [0, 1, 2, 3] rfl) hE
set_option maxRecDepth 20000 in
theorem bX0_init_45 {p : Program} {l : Launch} {e : Env} {s : State} {m : MethodId} {args : Array Value} {below : List Frame} {meth : Method} {c : Code} {X : Ec} {h0 : Hp} {o : Hp} {F : Nat} (C : Cx X p s m args meth c RX0 cX0_init 4 none "<init>") {h : Hp} {x0 : Nat} {x1 : Nat} {x2 : Nat} {x3 : Nat} {t0 : Nat} {t1 : Nat} {H : Heap} {locs : List Loc} (k_x0 : hK h x0 = 0) (k_x1 : hK h x1 = 1) (k_x2 : hK h x2 = 10) (k_x3 : hK h x3 = 5) (k_t0 : hK h t0 = 17) (k_t1 : hK h t1 = 0) (hkl : Kl h0 h) (hW : Wx X h H) (hZ : va_S (aA (eB X)) s.heap H locs) (ls : Array Slot) (hl : lv_has ls 4 [(0, .ref x0), (1, .ref x1), (2, .ref x2), (3, .ref x3)]) (hE : sX0_init_45 F h x0 x1 x2 x3 t0 t1 = some o) : W p l e (rmA 2 43 h0 o) s m args below meth c H locs (hS h - hS h0) (hL h - hL h0) (MQ below (QVA X h0 o) args s (hS o - hS h0) (hL o - hL h0) (aA (eB X))) (F0 m 45 ls [.ref t0, .ref t1]) := by
  obtain ⟨h_1, eh_1, hE⟩ := nm_e2 hE
  refine pf_X0_28 C hW hZ rfl k_t1 k_t0 eh_1 dX0_init_45 (fun _ _ hW km hZ => ?_)
  replace hkl := hkl.tr km.l
  refine x_wc km ?_
  replace k_x0 := km.at k_x0 (by decide)
  replace k_x1 := km.at k_x1 (by decide)
  replace k_x2 := km.at k_x2 (by decide)
  replace k_x3 := km.at k_x3 (by decide)
  refine lv_aload_n C.1 C.2.1 dX0_init_48 rfl (lv_at hl 0 rfl) ?_
  refine lv_iconst (v := (0 : Int32)) C.1 C.2.1 dX0_init_49 (by decide) ?_
  obtain ⟨a_2, ea_2, hE⟩ := nm_e2 hE
  obtain ⟨h_3, eh_3, hE⟩ := nm_e2 hE
  refine y_newa (k := 17) (ty := .int) (t0 := 1) C hW hZ hkl (moX0_init_52 hE) ⟨rfl, rfl⟩ (by decide) (by decide) rfl rfl (by intro C hC; cases hC) hdef_17 m_54 (by decide) (by decide) eh_3 dX0_init_50 (fun _ hW km k_a_2 hZ => ?_)
  replace hkl := hkl.tr km
  refine x_nmA ea_2 ?_
  rw [← ea_2] at k_a_2
  replace k_x0 := km.at k_x0 (by decide)
  replace k_x1 := km.at k_x1 (by decide)
  replace k_x2 := km.at k_x2 (by decide)
  replace k_x3 := km.at k_x3 (by decide)
  exact bX0_init_52 C k_x0 k_x1 k_x2 k_x3 k_a_2 k_x0 hkl hW hZ _ (lv_sub hl [0, 1, 2, 3] rfl) hE
set_option maxRecDepth 20000 in
theorem bX0_init_38 {p : Program} {l : Launch} {e : Env} {s : State} {m : MethodId} {args : Array Value} {below : List Frame} {meth : Method} {c : Code} {X : Ec} {h0 : Hp} {o : Hp} {F : Nat} (C : Cx X p s m args meth c RX0 cX0_init 4 none "<init>") {h : Hp} {x0 : Nat} {x1 : Nat} {x2 : Nat} {x3 : Nat} {t0 : Nat} {t1 : Nat} {H : Heap} {locs : List Loc} (k_x0 : hK h x0 = 0) (k_x1 : hK h x1 = 1) (k_x2 : hK h x2 = 10) (k_x3 : hK h x3 = 5) (k_t0 : hK h t0 = 17) (k_t1 : hK h t1 = 0) (hkl : Kl h0 h) (hW : Wx X h H) (hZ : va_S (aA (eB X)) s.heap H locs) (ls : Array Slot) (hl : lv_has ls 4 [(0, .ref x0), (1, .ref x1), (2, .ref x2), (3, .ref x3)]) (hE : sX0_init_38 F h x0 x1 x2 x3 t0 t1 = some o) : W p l e (rmA 2 43 h0 o) s m args below meth c H locs (hS h - hS h0) (hL h - hL h0) (MQ below (QVA X h0 o) args s (hS o - hS h0) (hL o - hL h0) (aA (eB X))) (F0 m 38 ls [.ref t0, .ref t1]) := by
  obtain ⟨h_1, eh_1, hE⟩ := nm_e2 hE
  refine pf_X0_25 C hW hZ rfl k_t1 k_t0 eh_1 dX0_init_38 (fun _ _ hW km hZ => ?_)
  replace hkl := hkl.tr km.l
  refine x_wc km ?_
  replace k_x0 := km.at k_x0 (by decide)
  replace k_x1 := km.at k_x1 (by decide)
  replace k_x2 := km.at k_x2 (by decide)
  replace k_x3 := km.at k_x3 (by decide)
  refine lv_aload_n C.1 C.2.1 dX0_init_41 rfl (lv_at hl 0 rfl) ?_
  refine lv_iconst (v := (5 : Int32)) C.1 C.2.1 dX0_init_42 (by decide) ?_
  obtain ⟨a_2, ea_2, hE⟩ := nm_e2 hE
  obtain ⟨h_3, eh_3, hE⟩ := nm_e2 hE
  refine y_newa (k := 17) (ty := .int) (t0 := 1) C hW hZ hkl (moX0_init_45 hE) ⟨rfl, rfl⟩ (by decide) (by decide) rfl rfl (by intro C hC; cases hC) hdef_17 m_54 (by decide) (by decide) eh_3 dX0_init_43 (fun _ hW km k_a_2 hZ => ?_)
  replace hkl := hkl.tr km
  refine x_nmA ea_2 ?_
  rw [← ea_2] at k_a_2
  replace k_x0 := km.at k_x0 (by decide)
  replace k_x1 := km.at k_x1 (by decide)
  replace k_x2 := km.at k_x2 (by decide)
  replace k_x3 := km.at k_x3 (by decide)
  exact bX0_init_45 C k_x0 k_x1 k_x2 k_x3 k_a_2 k_x0 hkl hW hZ _ (lv_sub hl [0, 1, 2, 3] rfl) hE
set_option maxRecDepth 20000 in
theorem bX0_init_30 {p : Program} {l : Launch} {e : Env} {s : State} {m : MethodId} {args : Array Value} {below : List Frame} {meth : Method} {c : Code} {X : Ec} {h0 : Hp} {o : Hp} {F : Nat} (C : Cx X p s m args meth c RX0 cX0_init 4 none "<init>") {h : Hp} {x0 : Nat} {x1 : Nat} {x2 : Nat} {x3 : Nat} {t0 : Nat} {t1 : Nat} {H : Heap} {locs : List Loc} (k_x0 : hK h x0 = 0) (k_x1 : hK h x1 = 1) (k_x2 : hK h x2 = 10) (k_x3 : hK h x3 = 5) (k_t0 : hK h t0 = 17) (k_t1 : hK h t1 = 0) (hkl : Kl h0 h) (hW : Wx X h H) (hZ : va_S (aA (eB X)) s.heap H locs) (ls : Array Slot) (hl : lv_has ls 4 [(0, .ref x0), (1, .ref x1), (2, .ref x2), (3, .ref x3)]) (hE : sX0_init_30 F h x0 x1 x2 x3 t0 t1 = some o) : W p l e (rmA 2 43 h0 o) s m args below meth c H locs (hS h - hS h0) (hL h - hL h0) (MQ below (QVA X h0 o) args s (hS o - hS h0) (hL o - hL h0) (aA (eB X))) (F0 m 30 ls [.ref t0, .ref t1]) := by
  obtain ⟨h_1, eh_1, hE⟩ := nm_e2 hE
  refine pf_X0_22 C hW hZ rfl k_t1 k_t0 eh_1 dX0_init_30 (fun _ _ hW km hZ => ?_)
  replace hkl := hkl.tr km.l
  refine x_wc km ?_
  replace k_x0 := km.at k_x0 (by decide)
  replace k_x1 := km.at k_x1 (by decide)
  replace k_x2 := km.at k_x2 (by decide)
  replace k_x3 := km.at k_x3 (by decide)
  refine lv_aload_n C.1 C.2.1 dX0_init_33 rfl (lv_at hl 0 rfl) ?_
  refine lv_bipush (v := (6 : Int32)) C.1 C.2.1 dX0_init_34 (by decide) ?_
  obtain ⟨a_2, ea_2, hE⟩ := nm_e2 hE
  obtain ⟨h_3, eh_3, hE⟩ := nm_e2 hE
  refine y_newa (k := 17) (ty := .int) (t0 := 1) C hW hZ hkl (moX0_init_38 hE) ⟨rfl, rfl⟩ (by decide) (by decide) rfl rfl (by intro C hC; cases hC) hdef_17 m_54 (by decide) (by decide) eh_3 dX0_init_36 (fun _ hW km k_a_2 hZ => ?_)
  replace hkl := hkl.tr km
  refine x_nmA ea_2 ?_
  rw [← ea_2] at k_a_2
  replace k_x0 := km.at k_x0 (by decide)
  replace k_x1 := km.at k_x1 (by decide)
  replace k_x2 := km.at k_x2 (by decide)
  replace k_x3 := km.at k_x3 (by decide)
  exact bX0_init_38 C k_x0 k_x1 k_x2 k_x3 k_a_2 k_x0 hkl hW hZ _ (lv_sub hl [0, 1, 2, 3] rfl) hE
set_option maxRecDepth 20000 in
theorem bX0_init_21 {p : Program} {l : Launch} {e : Env} {s : State} {m : MethodId} {args : Array Value} {below : List Frame} {meth : Method} {c : Code} {X : Ec} {h0 : Hp} {o : Hp} {F : Nat} (C : Cx X p s m args meth c RX0 cX0_init 4 none "<init>") {h : Hp} {x0 : Nat} {x1 : Nat} {x2 : Nat} {x3 : Nat} {t0 : Nat} {t1 : Nat} {H : Heap} {locs : List Loc} (k_x0 : hK h x0 = 0) (k_x1 : hK h x1 = 1) (k_x2 : hK h x2 = 10) (k_x3 : hK h x3 = 5) (k_t0 : hK h t0 = 17) (k_t1 : hK h t1 = 0) (hkl : Kl h0 h) (hW : Wx X h H) (hZ : va_S (aA (eB X)) s.heap H locs) (ls : Array Slot) (hl : lv_has ls 4 [(0, .ref x0), (1, .ref x1), (2, .ref x2), (3, .ref x3)]) (hE : sX0_init_21 F h x0 x1 x2 x3 t0 t1 = some o) : W p l e (rmA 2 43 h0 o) s m args below meth c H locs (hS h - hS h0) (hL h - hL h0) (MQ below (QVA X h0 o) args s (hS o - hS h0) (hL o - hL h0) (aA (eB X))) (F0 m 21 ls [.ref t0, .ref t1]) := by
  obtain ⟨h_1, eh_1, hE⟩ := nm_e2 hE
  refine pf_X0_18 C hW hZ rfl k_t1 k_t0 eh_1 dX0_init_21 (fun _ _ hW km hZ => ?_)
  replace hkl := hkl.tr km.l
  refine x_wc km ?_
  replace k_x0 := km.at k_x0 (by decide)
  replace k_x1 := km.at k_x1 (by decide)
  replace k_x2 := km.at k_x2 (by decide)
  replace k_x3 := km.at k_x3 (by decide)
  refine lv_aload_n C.1 C.2.1 dX0_init_24 rfl (lv_at hl 0 rfl) ?_
  refine lv_sipush (v := (1025 : Int32)) C.1 C.2.1 dX0_init_25 (by decide) ?_
  obtain ⟨a_2, ea_2, hE⟩ := nm_e2 hE
  obtain ⟨h_3, eh_3, hE⟩ := nm_e2 hE
  refine y_newa (k := 17) (ty := .int) (t0 := 1) C hW hZ hkl (moX0_init_30 hE) ⟨rfl, rfl⟩ (by decide) (by decide) rfl rfl (by intro C hC; cases hC) hdef_17 m_54 (by decide) (by decide) eh_3 dX0_init_28 (fun _ hW km k_a_2 hZ => ?_)
  replace hkl := hkl.tr km
  refine x_nmA ea_2 ?_
  rw [← ea_2] at k_a_2
  replace k_x0 := km.at k_x0 (by decide)
  replace k_x1 := km.at k_x1 (by decide)
  replace k_x2 := km.at k_x2 (by decide)
  replace k_x3 := km.at k_x3 (by decide)
  exact bX0_init_30 C k_x0 k_x1 k_x2 k_x3 k_a_2 k_x0 hkl hW hZ _ (lv_sub hl [0, 1, 2, 3] rfl) hE
set_option maxRecDepth 20000 in
theorem bX0_init_12 {p : Program} {l : Launch} {e : Env} {s : State} {m : MethodId} {args : Array Value} {below : List Frame} {meth : Method} {c : Code} {X : Ec} {h0 : Hp} {o : Hp} {F : Nat} (C : Cx X p s m args meth c RX0 cX0_init 4 none "<init>") {h : Hp} {x0 : Nat} {x1 : Nat} {x2 : Nat} {x3 : Nat} {t0 : Nat} {t1 : Nat} {H : Heap} {locs : List Loc} (k_x0 : hK h x0 = 0) (k_x1 : hK h x1 = 1) (k_x2 : hK h x2 = 10) (k_x3 : hK h x3 = 5) (k_t0 : hK h t0 = 3) (k_t1 : hK h t1 = 0) (hkl : Kl h0 h) (hW : Wx X h H) (hZ : va_S (aA (eB X)) s.heap H locs) (ls : Array Slot) (hl : lv_has ls 4 [(0, .ref x0), (1, .ref x1), (2, .ref x2), (3, .ref x3)]) (hE : sX0_init_12 F h x0 x1 x2 x3 t0 t1 = some o) : W p l e (rmA 2 43 h0 o) s m args below meth c H locs (hS h - hS h0) (hL h - hL h0) (MQ below (QVA X h0 o) args s (hS o - hS h0) (hL o - hL h0) (aA (eB X))) (F0 m 12 ls [.ref t0, .ref t1]) := by
  obtain ⟨h_1, eh_1, hE⟩ := nm_e2 hE
  refine pf_X0_14 C hW hZ rfl k_t1 k_t0 eh_1 dX0_init_12 (fun _ _ hW km hZ => ?_)
  replace hkl := hkl.tr km.l
  refine x_wc km ?_
  replace k_x0 := km.at k_x0 (by decide)
  replace k_x1 := km.at k_x1 (by decide)
  replace k_x2 := km.at k_x2 (by decide)
  replace k_x3 := km.at k_x3 (by decide)
  refine lv_aload_n C.1 C.2.1 dX0_init_15 rfl (lv_at hl 0 rfl) ?_
  refine lv_sipush (v := (1024 : Int32)) C.1 C.2.1 dX0_init_16 (by decide) ?_
  obtain ⟨a_2, ea_2, hE⟩ := nm_e2 hE
  obtain ⟨h_3, eh_3, hE⟩ := nm_e2 hE
  refine y_newa (k := 17) (ty := .int) (t0 := 1) C hW hZ hkl (moX0_init_21 hE) ⟨rfl, rfl⟩ (by decide) (by decide) rfl rfl (by intro C hC; cases hC) hdef_17 m_54 (by decide) (by decide) eh_3 dX0_init_19 (fun _ hW km k_a_2 hZ => ?_)
  replace hkl := hkl.tr km
  refine x_nmA ea_2 ?_
  rw [← ea_2] at k_a_2
  replace k_x0 := km.at k_x0 (by decide)
  replace k_x1 := km.at k_x1 (by decide)
  replace k_x2 := km.at k_x2 (by decide)
  replace k_x3 := km.at k_x3 (by decide)
  exact bX0_init_21 C k_x0 k_x1 k_x2 k_x3 k_a_2 k_x0 hkl hW hZ _ (lv_sub hl [0, 1, 2, 3] rfl) hE
set_option maxRecDepth 20000 in
theorem bX0_init_8 {p : Program} {l : Launch} {e : Env} {s : State} {m : MethodId} {args : Array Value} {below : List Frame} {meth : Method} {c : Code} {X : Ec} {h0 : Hp} {o : Hp} {F : Nat} (C : Cx X p s m args meth c RX0 cX0_init 4 none "<init>") {h : Hp} {x0 : Nat} {x1 : Nat} {x2 : Nat} {x3 : Nat} {t0 : Nat} {t1 : Nat} {H : Heap} {locs : List Loc} (k_x0 : hK h x0 = 0) (k_x1 : hK h x1 = 1) (k_x2 : hK h x2 = 10) (k_x3 : hK h x3 = 5) (k_t0 : hK h t0 = 3) (k_t1 : hK h t1 = 0) (hkl : Kl h0 h) (hW : Wx X h H) (hZ : va_S (aA (eB X)) s.heap H locs) (ls : Array Slot) (hl : lv_has ls 4 [(0, .ref x0), (1, .ref x1), (2, .ref x2), (3, .ref x3)]) (hE : sX0_init_8 F h x0 x1 x2 x3 t0 t1 = some o) : W p l e (rmA 2 43 h0 o) s m args below meth c H locs (hS h - hS h0) (hL h - hL h0) (MQ below (QVA X h0 o) args s (hS o - hS h0) (hL o - hL h0) (aA (eB X))) (F0 m 8 ls [.ref t0, .ref t1]) := by
  refine lv_dup C.1 C.2.1 dX0_init_8 rfl ?_
  obtain ⟨o_1, eo_1, hE⟩ := cl_e hE
  have m1 := moX3_init eo_1
  have m2 := moX0_init_12 hE
  refine x_kVA (o := o_1) hkl (z_runI (As := []) (rest := [.ref t0, .ref t1]) C (ct_X3_init l X F k_t0 eo_1) ci_X0_13 hW hZ rfl hl.1 (Nat.le_of_ble_eq_true rfl) rfl dX0_init_9 ⟨Nat.le_of_ble_eq_true rfl, Nat.le_of_ble_eq_true rfl⟩ (rm_ok hkl m1 m2)) hZ (fun _ _ hW km hZ => ?_)
  replace hkl := hkl.tr km
  replace k_x0 := km.at k_x0 (by decide)
  replace k_x1 := km.at k_x1 (by decide)
  replace k_x2 := km.at k_x2 (by decide)
  replace k_x3 := km.at k_x3 (by decide)
  replace k_t0 := km.at k_t0 (by decide)
  replace k_t1 := km.at k_t1 (by decide)
  exact bX0_init_12 C k_x0 k_x1 k_x2 k_x3 k_t0 k_t1 hkl hW hZ _ (lv_sub hl [0, 1, 2, 3] rfl) hE
set_option maxRecDepth 20000 in
theorem ct_X0_init (l : Launch) (X : Ec) (F : Nat) {h : Hp} {x0 : Nat} {x1 : Nat} {x2 : Nat} {x3 : Nat} {o : Hp} (k_x0 : hK h x0 = 0) (k_x1 : hK h x1 = 1) (k_x2 : hK h x2 = 10) (k_x3 : hK h x3 = 5) (hE : sX0_init F h x0 x1 x2 x3 = some o) : MetVA l yX0_init cX0_init 4 none 2 43 X [.ref x0, .ref x1, .ref x2, .ref x3] h o := by
  refine x_metA (oh := o) (by decide) (Nat.le_of_ble_eq_true rfl) ?_
  intro p e s m below meth c ls C hl hW hZ
  have hl : lv_has ls 4 [(0, .ref x0), (1, .ref x1), (2, .ref x2), (3, .ref x3)] := hl
  have hkl : Kl h h := Kl.rf h
  refine lv_aload_n C.1 C.2.1 dX0_init_0 rfl (lv_at hl 0 rfl) ?_
  refine W.objInit C.1 C.2.1 C.2.2.2.1 (C.2.2.2.2.1 _ m_454) (C.2.2.2.2.1 _ m_32) (C.2.2.2.2.1 _ m_33) rfl (by rw [C.2.2.1]; exact hl.1) rfl dX0_init_1 (Nat.le_of_ble_eq_true rfl) (Nat.le_of_ble_eq_true rfl) ?_
  refine W.eq (g2 := F0 m 4 ls []) rfl ?_
  refine lv_aload_n C.1 C.2.1 dX0_init_4 rfl (lv_at hl 0 rfl) ?_
  obtain ⟨a_1, ea_1, hE⟩ := nm_e2 hE
  obtain ⟨h_2, eh_2, hE⟩ := nm_e2 hE
  refine y_new C hW hZ hkl (moX0_init_8 hE) ⟨rfl, rfl⟩ i_X3 tyX3 tyX3_ok (by decide) rfl rfl dv_X3 m_455 m_266 m_8 eh_2 dX0_init_5 (fun _ hW km k_a_1 hZ => ?_)
  replace hkl := hkl.tr km
  refine x_nmA ea_1 ?_
  rw [← ea_1] at k_a_1
  replace k_x0 := km.at k_x0 (by decide)
  replace k_x1 := km.at k_x1 (by decide)
  replace k_x2 := km.at k_x2 (by decide)
  replace k_x3 := km.at k_x3 (by decide)
  exact bX0_init_8 C k_x0 k_x1 k_x2 k_x3 k_a_1 k_x0 hkl hW hZ _ (lv_sub hl [0, 1, 2, 3] rfl) hE
set_option maxRecDepth 100000 in
theorem m_523 : Cond.methodLink RX4 3 objectInit ∈ W0 := w0_in (List.mem_append_right _ (List.mem_of_getElem? (i := 523) rfl)) rfl
set_option maxRecDepth 100000 in
theorem m_524 : Cond.classLink RX4 11 RX3 ∈ W0 := w0_in (List.mem_append_right _ (List.mem_of_getElem? (i := 524) rfl)) rfl
set_option maxRecDepth 100000 in
theorem m_526 : Cond.classLink RX4 17 ("[" ++ (FieldType.array .int).toString) ∈ W0 := w0_in (List.mem_append_right _ (List.mem_of_getElem? (i := 526) rfl)) rfl
set_option maxRecDepth 100000 in
theorem m_528 : Cond.methodLink RX4 49 yX3_init ∈ W0 := w0_in (List.mem_append_right _ (List.mem_of_getElem? (i := 528) rfl)) rfl
set_option maxRecDepth 100000 in
theorem m_529 : Cond.fieldLink RX4 45 (TX4 0).1 (TX4 0).2.1 (TX4 0).2.2.1 ∈ W0 := w0_in (List.mem_append_right _ (List.mem_of_getElem? (i := 529) rfl)) rfl
set_option maxRecDepth 100000 in
theorem m_530 : Cond.fieldLink RX4 13 (TX4 1).1 (TX4 1).2.1 (TX4 1).2.2.1 ∈ W0 := w0_in (List.mem_append_right _ (List.mem_of_getElem? (i := 530) rfl)) rfl
set_option maxRecDepth 100000 in
theorem m_531 : Cond.fieldLink RX4 19 (TX4 2).1 (TX4 2).2.1 (TX4 2).2.2.1 ∈ W0 := w0_in (List.mem_append_right _ (List.mem_of_getElem? (i := 531) rfl)) rfl
set_option maxRecDepth 100000 in
theorem m_532 : Cond.fieldLink RX4 22 (TX4 3).1 (TX4 3).2.1 (TX4 3).2.2.1 ∈ W0 := w0_in (List.mem_append_right _ (List.mem_of_getElem? (i := 532) rfl)) rfl
set_option maxRecDepth 100000 in
theorem m_533 : Cond.fieldLink RX4 26 (TX4 4).1 (TX4 4).2.1 (TX4 4).2.2.1 ∈ W0 := w0_in (List.mem_append_right _ (List.mem_of_getElem? (i := 533) rfl)) rfl
set_option maxRecDepth 100000 in
theorem m_540 : Cond.fieldLink RX4 29 (TX4 10).1 (TX4 10).2.1 (TX4 10).2.2.1 ∈ W0 := w0_in (List.mem_append_right _ (List.mem_of_getElem? (i := 540) rfl)) rfl
set_option maxRecDepth 100000 in
theorem m_541 : Cond.fieldLink RX4 32 (TX4 11).1 (TX4 11).2.1 (TX4 11).2.2.1 ∈ W0 := w0_in (List.mem_append_right _ (List.mem_of_getElem? (i := 541) rfl)) rfl
set_option maxRecDepth 100000 in
theorem m_542 : Cond.fieldLink RX4 35 (TX4 12).1 (TX4 12).2.1 (TX4 12).2.2.1 ∈ W0 := w0_in (List.mem_append_right _ (List.mem_of_getElem? (i := 542) rfl)) rfl
set_option maxRecDepth 100000 in
theorem m_543 : Cond.fieldLink RX4 38 (TX4 13).1 (TX4 13).2.1 (TX4 13).2.2.1 ∈ W0 := w0_in (List.mem_append_right _ (List.mem_of_getElem? (i := 543) rfl)) rfl
set_option maxRecDepth 100000 in
theorem m_546 : Cond.fieldLink RX4 41 (TX4 16).1 (TX4 16).2.1 (TX4 16).2.2.1 ∈ W0 := w0_in (List.mem_append_right _ (List.mem_of_getElem? (i := 546) rfl)) rfl
theorem i_X4 : ∀ w ∈ u_ws RX4 TX4 17, w ∈ W0 := by
  intro w hw
  exact w0_in (List.mem_append_right _ ((by decide +kernel : ∀ w ∈ u_ws RX4 TX4 17, w ∈ tables_1) w hw)) ((by decide +kernel : ∀ w ∈ u_ws RX4 TX4 17, goodWord w = true) w hw)
section
variable {p : Program} {l : Launch} {e : Env} {R : Room} {s : State} {m : MethodId} {args : Array Value} {below : List Frame} {meth : Method} {c : Code} {H : Heap} {locs : List Loc} {cells slots : Nat} {Q : State → Prop}
variable {cc : ByteArray} {pc : Nat} {ls : Array Slot} {rest : List Value} {X : Ec} {h h1 : Hp} {nL : Nat} {rt : Option FieldType} {mn : String}
theorem gf_X4_13 {a r : Nat} (C : Cx X p s m args meth c RX4 cc nL rt mn) (hW : Wx X h H) (ha : hK h a = 4) (hr : hR h a 1 = some r) (hdg : decode cc pc = .ok (.getfield 13, 3)) (kk : hK h r = 20 → W p l e R s m args below meth c H locs cells slots Q (F0 m (pc + 3) ls (.ref r :: rest))) : W p l e R s m args below meth c H locs cells slots Q (F0 m pc ls (.ref a :: rest)) :=
  y_getr C hW ha i_X4 (by decide) rfl (by decide) m_530 rfl rfl hr hdg kk
theorem pf_X4_38 {a r : Nat} (C : Cx X p s m args meth c RX4 cc nL rt mn) (hW : Wx X h H) (hZ : va_S (aA (eB X)) s.heap H locs) (hmn : mn = "<init>") (ha : hK h a = 4) (hr : hK h r = 17) (eh : h1 = wR h a 13 (some r)) (hdg : decode cc pc = .ok (.putfield 38, 3)) (kk : ∀ (H1 : Heap) (locs1 : List Loc), Wx X h1 H1 → Km h h1 → va_S (aA (eB X)) s.heap H1 locs1 → W p l e R s m args below meth c H1 locs1 cells slots Q (F0 m (pc + 3) ls rest)) : W p l e R s m args below meth c H locs cells slots Q (F0 m pc ls (.ref r :: .ref a :: rest)) :=
  y_putrF (ty := .array .int) C hW hZ ha i_X4 tyX4 tyX4_ok nmX4 (by decide) rfl rfl (by decide) m_543 rfl hmn rfl (by decide +kernel) rfl rfl rfl hr rfl (by decide) eh hdg kk
theorem pf_X4_41 {a : Nat} {v : Int32} (C : Cx X p s m args meth c RX4 cc nL rt mn) (hW : Wx X h H) (hZ : va_S (aA (eB X)) s.heap H locs) (ha : hK h a = 4) (eh : h1 = wI h a 16 v) (hdg : decode cc pc = .ok (.putfield 41, 3)) (kk : ∀ (H1 : Heap) (locs1 : List Loc), Wx X h1 H1 → Km h h1 → va_S (aA (eB X)) s.heap H1 locs1 → W p l e R s m args below meth c H1 locs1 cells slots Q (F0 m (pc + 3) ls rest)) : W p l e R s m args below meth c H locs cells slots Q (F0 m pc ls (.int v :: .ref a :: rest)) :=
  y_puti (ty := .int) C hW hZ ha i_X4 tyX4 tyX4_ok nmX4 (by decide) rfl rfl (by decide) m_546 rfl (by decide +kernel) rfl rfl rfl eh hdg kk
theorem pf_X4_45 {a r : Nat} (C : Cx X p s m args meth c RX4 cc nL rt mn) (hW : Wx X h H) (hZ : va_S (aA (eB X)) s.heap H locs) (hmn : mn = "<init>") (ha : hK h a = 4) (hr : hK h r = 5) (eh : h1 = wR h a 0 (some r)) (hdg : decode cc pc = .ok (.putfield 45, 3)) (kk : ∀ (H1 : Heap) (locs1 : List Loc), Wx X h1 H1 → Km h h1 → va_S (aA (eB X)) s.heap H1 locs1 → W p l e R s m args below meth c H1 locs1 cells slots Q (F0 m (pc + 3) ls rest)) : W p l e R s m args below meth c H locs cells slots Q (F0 m pc ls (.ref r :: .ref a :: rest)) :=
  y_putrF (ty := .object "GameRules$Referee") C hW hZ ha i_X4 tyX4 tyX4_ok nmX4 (by decide) rfl rfl (by decide) m_529 rfl hmn rfl (by decide +kernel) rfl rfl rfl hr rfl (by decide) eh hdg kk
theorem pf_X4_35 {a r : Nat} (C : Cx X p s m args meth c RX4 cc nL rt mn) (hW : Wx X h H) (hZ : va_S (aA (eB X)) s.heap H locs) (hmn : mn = "<init>") (ha : hK h a = 4) (hr : hK h r = 17) (eh : h1 = wR h a 12 (some r)) (hdg : decode cc pc = .ok (.putfield 35, 3)) (kk : ∀ (H1 : Heap) (locs1 : List Loc), Wx X h1 H1 → Km h h1 → va_S (aA (eB X)) s.heap H1 locs1 → W p l e R s m args below meth c H1 locs1 cells slots Q (F0 m (pc + 3) ls rest)) : W p l e R s m args below meth c H locs cells slots Q (F0 m pc ls (.ref r :: .ref a :: rest)) :=
  y_putrF (ty := .array .int) C hW hZ ha i_X4 tyX4 tyX4_ok nmX4 (by decide) rfl rfl (by decide) m_542 rfl hmn rfl (by decide +kernel) rfl rfl rfl hr rfl (by decide) eh hdg kk
theorem pf_X4_32 {a r : Nat} (C : Cx X p s m args meth c RX4 cc nL rt mn) (hW : Wx X h H) (hZ : va_S (aA (eB X)) s.heap H locs) (hmn : mn = "<init>") (ha : hK h a = 4) (hr : hK h r = 17) (eh : h1 = wR h a 11 (some r)) (hdg : decode cc pc = .ok (.putfield 32, 3)) (kk : ∀ (H1 : Heap) (locs1 : List Loc), Wx X h1 H1 → Km h h1 → va_S (aA (eB X)) s.heap H1 locs1 → W p l e R s m args below meth c H1 locs1 cells slots Q (F0 m (pc + 3) ls rest)) : W p l e R s m args below meth c H locs cells slots Q (F0 m pc ls (.ref r :: .ref a :: rest)) :=
  y_putrF (ty := .array .int) C hW hZ ha i_X4 tyX4 tyX4_ok nmX4 (by decide) rfl rfl (by decide) m_541 rfl hmn rfl (by decide +kernel) rfl rfl rfl hr rfl (by decide) eh hdg kk
theorem pf_X4_29 {a r : Nat} (C : Cx X p s m args meth c RX4 cc nL rt mn) (hW : Wx X h H) (hZ : va_S (aA (eB X)) s.heap H locs) (hmn : mn = "<init>") (ha : hK h a = 4) (hr : hK h r = 17) (eh : h1 = wR h a 10 (some r)) (hdg : decode cc pc = .ok (.putfield 29, 3)) (kk : ∀ (H1 : Heap) (locs1 : List Loc), Wx X h1 H1 → Km h h1 → va_S (aA (eB X)) s.heap H1 locs1 → W p l e R s m args below meth c H1 locs1 cells slots Q (F0 m (pc + 3) ls rest)) : W p l e R s m args below meth c H locs cells slots Q (F0 m pc ls (.ref r :: .ref a :: rest)) :=
  y_putrF (ty := .array .int) C hW hZ ha i_X4 tyX4 tyX4_ok nmX4 (by decide) rfl rfl (by decide) m_540 rfl hmn rfl (by decide +kernel) rfl rfl rfl hr rfl (by decide) eh hdg kk
theorem pf_X4_26 {a r : Nat} (C : Cx X p s m args meth c RX4 cc nL rt mn) (hW : Wx X h H) (hZ : va_S (aA (eB X)) s.heap H locs) (hmn : mn = "<init>") (ha : hK h a = 4) (hr : hK h r = 17) (eh : h1 = wR h a 4 (some r)) (hdg : decode cc pc = .ok (.putfield 26, 3)) (kk : ∀ (H1 : Heap) (locs1 : List Loc), Wx X h1 H1 → Km h h1 → va_S (aA (eB X)) s.heap H1 locs1 → W p l e R s m args below meth c H1 locs1 cells slots Q (F0 m (pc + 3) ls rest)) : W p l e R s m args below meth c H locs cells slots Q (F0 m pc ls (.ref r :: .ref a :: rest)) :=
  y_putrF (ty := .array .int) C hW hZ ha i_X4 tyX4 tyX4_ok nmX4 (by decide) rfl rfl (by decide) m_533 rfl hmn rfl (by decide +kernel) rfl rfl rfl hr rfl (by decide) eh hdg kk
theorem pf_X4_22 {a r : Nat} (C : Cx X p s m args meth c RX4 cc nL rt mn) (hW : Wx X h H) (hZ : va_S (aA (eB X)) s.heap H locs) (hmn : mn = "<init>") (ha : hK h a = 4) (hr : hK h r = 17) (eh : h1 = wR h a 3 (some r)) (hdg : decode cc pc = .ok (.putfield 22, 3)) (kk : ∀ (H1 : Heap) (locs1 : List Loc), Wx X h1 H1 → Km h h1 → va_S (aA (eB X)) s.heap H1 locs1 → W p l e R s m args below meth c H1 locs1 cells slots Q (F0 m (pc + 3) ls rest)) : W p l e R s m args below meth c H locs cells slots Q (F0 m pc ls (.ref r :: .ref a :: rest)) :=
  y_putrF (ty := .array .int) C hW hZ ha i_X4 tyX4 tyX4_ok nmX4 (by decide) rfl rfl (by decide) m_532 rfl hmn rfl (by decide +kernel) rfl rfl rfl hr rfl (by decide) eh hdg kk
theorem pf_X4_19 {a r : Nat} (C : Cx X p s m args meth c RX4 cc nL rt mn) (hW : Wx X h H) (hZ : va_S (aA (eB X)) s.heap H locs) (hmn : mn = "<init>") (ha : hK h a = 4) (hr : hK h r = 23) (eh : h1 = wR h a 2 (some r)) (hdg : decode cc pc = .ok (.putfield 19, 3)) (kk : ∀ (H1 : Heap) (locs1 : List Loc), Wx X h1 H1 → Km h h1 → va_S (aA (eB X)) s.heap H1 locs1 → W p l e R s m args below meth c H1 locs1 cells slots Q (F0 m (pc + 3) ls rest)) : W p l e R s m args below meth c H locs cells slots Q (F0 m pc ls (.ref r :: .ref a :: rest)) :=
  y_putrF (ty := .array (.array .int)) C hW hZ ha i_X4 tyX4 tyX4_ok nmX4 (by decide) rfl rfl (by decide) m_531 rfl hmn rfl (by decide +kernel) rfl rfl rfl hr rfl (by decide) eh hdg kk
theorem pf_X4_13 {a r : Nat} (C : Cx X p s m args meth c RX4 cc nL rt mn) (hW : Wx X h H) (hZ : va_S (aA (eB X)) s.heap H locs) (hmn : mn = "<init>") (ha : hK h a = 4) (hr : hK h r = 20) (eh : h1 = wR h a 1 (some r)) (hdg : decode cc pc = .ok (.putfield 13, 3)) (kk : ∀ (H1 : Heap) (locs1 : List Loc), Wx X h1 H1 → Km h h1 → va_S (aA (eB X)) s.heap H1 locs1 → W p l e R s m args below meth c H1 locs1 cells slots Q (F0 m (pc + 3) ls rest)) : W p l e R s m args below meth c H locs cells slots Q (F0 m pc ls (.ref r :: .ref a :: rest)) :=
  y_putrF (ty := .array (.object "GameRules$Position")) C hW hZ ha i_X4 tyX4 tyX4_ok nmX4 (by decide) rfl rfl (by decide) m_530 rfl hmn rfl (by decide +kernel) rfl rfl rfl hr rfl (by decide) eh hdg kk
end
theorem ci_X4_49 : cwi RX4 49 yX3_init cX3_init 1 0 := ⟨m_269, m_528, m_8, m_268, rfl, by decide, by decide, by decide +kernel⟩
theorem dX4_init_0 : decode cX4_init 0 = .ok (.aload_n 0, 1) := by decide +kernel
theorem dX4_init_1 : decode cX4_init 1 = .ok (.invokespecial 3, 3) := by decide +kernel
theorem dX4_init_4 : decode cX4_init 4 = .ok (.aload_n 0, 1) := by decide +kernel
theorem dX4_init_5 : decode cX4_init 5 = .ok (.bipush 9, 2) := by decide +kernel
theorem dX4_init_7 : decode cX4_init 7 = .ok (.anewarray 11, 3) := by decide +kernel
theorem dX4_init_10 : decode cX4_init 10 = .ok (.putfield 13, 3) := by decide +kernel
theorem dX4_init_13 : decode cX4_init 13 = .ok (.aload_n 0, 1) := by decide +kernel
theorem dX4_init_14 : decode cX4_init 14 = .ok (.bipush 8, 2) := by decide +kernel
theorem dX4_init_16 : decode cX4_init 16 = .ok (.sipush 4096, 3) := by decide +kernel
theorem dX4_init_19 : decode cX4_init 19 = .ok (.multianewarray 17 2, 4) := by decide +kernel
theorem dX4_init_23 : decode cX4_init 23 = .ok (.putfield 19, 3) := by decide +kernel
theorem dX4_init_26 : decode cX4_init 26 = .ok (.aload_n 0, 1) := by decide +kernel
theorem dX4_init_27 : decode cX4_init 27 = .ok (.bipush 9, 2) := by decide +kernel
theorem dX4_init_29 : decode cX4_init 29 = .ok (.newarray .int, 2) := by decide +kernel
theorem dX4_init_31 : decode cX4_init 31 = .ok (.putfield 22, 3) := by decide +kernel
theorem dX4_init_34 : decode cX4_init 34 = .ok (.aload_n 0, 1) := by decide +kernel
theorem dX4_init_35 : decode cX4_init 35 = .ok (.bipush 8, 2) := by decide +kernel
theorem dX4_init_37 : decode cX4_init 37 = .ok (.newarray .int, 2) := by decide +kernel
theorem dX4_init_39 : decode cX4_init 39 = .ok (.putfield 26, 3) := by decide +kernel
theorem dX4_init_42 : decode cX4_init 42 = .ok (.aload_n 0, 1) := by decide +kernel
theorem dX4_init_43 : decode cX4_init 43 = .ok (.sipush 4096, 3) := by decide +kernel
theorem dX4_init_46 : decode cX4_init 46 = .ok (.newarray .int, 2) := by decide +kernel
theorem dX4_init_48 : decode cX4_init 48 = .ok (.putfield 29, 3) := by decide +kernel
theorem dX4_init_51 : decode cX4_init 51 = .ok (.aload_n 0, 1) := by decide +kernel
theorem dX4_init_52 : decode cX4_init 52 = .ok (.sipush 4096, 3) := by decide +kernel
theorem dX4_init_55 : decode cX4_init 55 = .ok (.newarray .int, 2) := by decide +kernel
theorem dX4_init_57 : decode cX4_init 57 = .ok (.putfield 32, 3) := by decide +kernel
theorem dX4_init_60 : decode cX4_init 60 = .ok (.aload_n 0, 1) := by decide +kernel
theorem dX4_init_61 : decode cX4_init 61 = .ok (.sipush 4096, 3) := by decide +kernel
theorem dX4_init_64 : decode cX4_init 64 = .ok (.newarray .int, 2) := by decide +kernel
theorem dX4_init_66 : decode cX4_init 66 = .ok (.putfield 35, 3) := by decide +kernel
theorem dX4_init_69 : decode cX4_init 69 = .ok (.aload_n 0, 1) := by decide +kernel
theorem dX4_init_70 : decode cX4_init 70 = .ok (.sipush 4096, 3) := by decide +kernel
theorem dX4_init_73 : decode cX4_init 73 = .ok (.newarray .int, 2) := by decide +kernel
theorem dX4_init_75 : decode cX4_init 75 = .ok (.putfield 38, 3) := by decide +kernel
theorem dX4_init_78 : decode cX4_init 78 = .ok (.aload_n 0, 1) := by decide +kernel
theorem dX4_init_79 : decode cX4_init 79 = .ok (.iconst (-1), 1) := by decide +kernel
theorem dX4_init_80 : decode cX4_init 80 = .ok (.putfield 41, 3) := by decide +kernel
theorem dX4_init_83 : decode cX4_init 83 = .ok (.aload_n 0, 1) := by decide +kernel
theorem dX4_init_84 : decode cX4_init 84 = .ok (.aload_n 1, 1) := by decide +kernel
theorem dX4_init_85 : decode cX4_init 85 = .ok (.putfield 45, 3) := by decide +kernel
theorem dX4_init_88 : decode cX4_init 88 = .ok (.iconst 0, 1) := by decide +kernel
theorem dX4_init_89 : decode cX4_init 89 = .ok (.istore_n 2, 1) := by decide +kernel
theorem dX4_init_90 : decode cX4_init 90 = .ok (.iload_n 2, 1) := by decide +kernel
theorem dX4_init_91 : decode cX4_init 91 = .ok (.bipush 8, 2) := by decide +kernel
theorem dX4_init_93 : decode cX4_init 93 = .ok (.if_icmp .gt 22, 3) := by decide +kernel
theorem dX4_init_96 : decode cX4_init 96 = .ok (.aload_n 0, 1) := by decide +kernel
theorem dX4_init_97 : decode cX4_init 97 = .ok (.getfield 13, 3) := by decide +kernel
theorem dX4_init_100 : decode cX4_init 100 = .ok (.iload_n 2, 1) := by decide +kernel
theorem dX4_init_101 : decode cX4_init 101 = .ok (.new 11, 3) := by decide +kernel
theorem dX4_init_104 : decode cX4_init 104 = .ok (.dup, 1) := by decide +kernel
theorem dX4_init_105 : decode cX4_init 105 = .ok (.invokespecial 49, 3) := by decide +kernel
theorem dX4_init_108 : decode cX4_init 108 = .ok (.aastore, 1) := by decide +kernel
theorem dX4_init_109 : decode cX4_init 109 = .ok (.iinc 2 1, 3) := by decide +kernel
theorem dX4_init_112 : decode cX4_init 112 = .ok (.goto (-22), 3) := by decide +kernel
theorem dX4_init_115 : decode cX4_init 115 = .ok (.return_, 1) := by decide +kernel
set_option maxRecDepth 20000 in
theorem moX4_init_108 {o : Hp} {k_90 : Hp → Nat → Int32 → Option (Hp)} {F : Nat} (mk_90 : ∀ (h : Hp) (x0 : Nat) (x2 : Int32), k_90 h x0 x2 = some o → Le h o) {h : Hp} {x0 : Nat} {x2 : Int32} {t0 : Nat} {t1 : Int32} {t2 : Nat} (hE : sX4_init_108 F k_90 h x0 x2 t0 t1 t2 = some o) : Le h o := by
  obtain ⟨g_1, hE⟩ := gd_e hE
  obtain ⟨h_2, eh_2, hE⟩ := nm_e2 hE
  refine (le_R eh_2).tr ?_
  obtain ⟨v_3, ev_3, hE⟩ := nm_e2 hE
  exact mk_90 _ _ _ hE
set_option maxRecDepth 20000 in
theorem moX4_init_104 {o : Hp} {k_90 : Hp → Nat → Int32 → Option (Hp)} {F : Nat} (mk_90 : ∀ (h : Hp) (x0 : Nat) (x2 : Int32), k_90 h x0 x2 = some o → Le h o) {h : Hp} {x0 : Nat} {x2 : Int32} {t0 : Nat} {t1 : Int32} {t2 : Nat} (hE : sX4_init_104 F k_90 h x0 x2 t0 t1 t2 = some o) : Le h o := by
  obtain ⟨o_1, eo_1, hE⟩ := cl_e hE
  refine (moX3_init eo_1).tr ?_
  exact moX4_init_108 mk_90 hE
set_option maxRecDepth 20000 in
theorem moX4_init_90 {o : Hp} {F : Nat} : ∀ (f : Nat) {h : Hp} {x0 : Nat} {x2 : Int32}, sX4_init_90 F f h x0 x2 = some o → Le h o := by
  intro f
  induction f with
  | zero =>
    intro h x0 x2 hE
    rw [sX4_init_90] at hE
    cases hE
  | succ f ih =>
    intro h x0 x2 hE
    rw [sX4_init_90] at hE
    have mk_90 : ∀ (h : Hp) (x0 : Nat) (x2 : Int32), sX4_init_90 F f h x0 x2 = some o → Le h o := fun h x0 x2 hE => ih hE
    rcases br_e hE with ⟨_, hE⟩ | ⟨_, hE⟩
    · exact le_some1 hE
    · obtain ⟨r_2, er_2, hE⟩ := cl_e hE
      obtain ⟨a_3, ea_3, hE⟩ := nm_e2 hE
      obtain ⟨h_4, eh_4, hE⟩ := nm_e2 hE
      refine (le_C eh_4).tr ?_
      exact moX4_init_104 mk_90 hE
set_option maxRecDepth 20000 in
theorem moX4_init_75 {o : Hp} {F : Nat} {h : Hp} {x0 : Nat} {x1 : Nat} {t0 : Nat} {t1 : Nat} (hE : sX4_init_75 F h x0 x1 t0 t1 = some o) : Le h o := by
  obtain ⟨h_1, eh_1, hE⟩ := nm_e2 hE
  refine (le_R eh_1).tr ?_
  obtain ⟨h_2, eh_2, hE⟩ := nm_e2 hE
  refine (le_I eh_2).tr ?_
  obtain ⟨h_3, eh_3, hE⟩ := nm_e2 hE
  refine (le_R eh_3).tr ?_
  exact moX4_init_90 _ hE
set_option maxRecDepth 20000 in
theorem moX4_init_66 {o : Hp} {F : Nat} {h : Hp} {x0 : Nat} {x1 : Nat} {t0 : Nat} {t1 : Nat} (hE : sX4_init_66 F h x0 x1 t0 t1 = some o) : Le h o := by
  obtain ⟨h_1, eh_1, hE⟩ := nm_e2 hE
  refine (le_R eh_1).tr ?_
  obtain ⟨a_2, ea_2, hE⟩ := nm_e2 hE
  obtain ⟨h_3, eh_3, hE⟩ := nm_e2 hE
  refine (le_C eh_3).tr ?_
  exact moX4_init_75 hE
set_option maxRecDepth 20000 in
theorem moX4_init_57 {o : Hp} {F : Nat} {h : Hp} {x0 : Nat} {x1 : Nat} {t0 : Nat} {t1 : Nat} (hE : sX4_init_57 F h x0 x1 t0 t1 = some o) : Le h o := by
  obtain ⟨h_1, eh_1, hE⟩ := nm_e2 hE
  refine (le_R eh_1).tr ?_
  obtain ⟨a_2, ea_2, hE⟩ := nm_e2 hE
  obtain ⟨h_3, eh_3, hE⟩ := nm_e2 hE
  refine (le_C eh_3).tr ?_
  exact moX4_init_66 hE
set_option maxRecDepth 20000 in
theorem moX4_init_48 {o : Hp} {F : Nat} {h : Hp} {x0 : Nat} {x1 : Nat} {t0 : Nat} {t1 : Nat} (hE : sX4_init_48 F h x0 x1 t0 t1 = some o) : Le h o := by
  obtain ⟨h_1, eh_1, hE⟩ := nm_e2 hE
  refine (le_R eh_1).tr ?_
  obtain ⟨a_2, ea_2, hE⟩ := nm_e2 hE
  obtain ⟨h_3, eh_3, hE⟩ := nm_e2 hE
  refine (le_C eh_3).tr ?_
  exact moX4_init_57 hE
set_option maxRecDepth 20000 in
theorem moX4_init_39 {o : Hp} {F : Nat} {h : Hp} {x0 : Nat} {x1 : Nat} {t0 : Nat} {t1 : Nat} (hE : sX4_init_39 F h x0 x1 t0 t1 = some o) : Le h o := by
  obtain ⟨h_1, eh_1, hE⟩ := nm_e2 hE
  refine (le_R eh_1).tr ?_
  obtain ⟨a_2, ea_2, hE⟩ := nm_e2 hE
  obtain ⟨h_3, eh_3, hE⟩ := nm_e2 hE
  refine (le_C eh_3).tr ?_
  exact moX4_init_48 hE
set_option maxRecDepth 20000 in
theorem moX4_init_31 {o : Hp} {F : Nat} {h : Hp} {x0 : Nat} {x1 : Nat} {t0 : Nat} {t1 : Nat} (hE : sX4_init_31 F h x0 x1 t0 t1 = some o) : Le h o := by
  obtain ⟨h_1, eh_1, hE⟩ := nm_e2 hE
  refine (le_R eh_1).tr ?_
  obtain ⟨a_2, ea_2, hE⟩ := nm_e2 hE
  obtain ⟨h_3, eh_3, hE⟩ := nm_e2 hE
  refine (le_C eh_3).tr ?_
  exact moX4_init_39 hE
set_option maxRecDepth 20000 in
theorem moX4_init_23 {o : Hp} {F : Nat} {h : Hp} {x0 : Nat} {x1 : Nat} {t0 : Nat} {t1 : Nat} (hE : sX4_init_23 F h x0 x1 t0 t1 = some o) : Le h o := by
  obtain ⟨h_1, eh_1, hE⟩ := nm_e2 hE
  refine (le_R eh_1).tr ?_
  obtain ⟨a_2, ea_2, hE⟩ := nm_e2 hE
  obtain ⟨h_3, eh_3, hE⟩ := nm_e2 hE
  refine (le_C eh_3).tr ?_
  exact moX4_init_31 hE
set_option maxRecDepth 20000 in
theorem moX4_init_10 {o : Hp} {F : Nat} {h : Hp} {x0 : Nat} {x1 : Nat} {t0 : Nat} {t1 : Nat} (hE : sX4_init_10 F h x0 x1 t0 t1 = some o) : Le h o := by
  obtain ⟨h_1, eh_1, hE⟩ := nm_e2 hE
  refine (le_R eh_1).tr ?_
  obtain ⟨a_2, ea_2, hE⟩ := nm_e2 hE
  obtain ⟨h_3, eh_3, hE⟩ := nm_e2 hE
  refine (le_M eh_3).tr ?_
  exact moX4_init_23 hE
set_option maxRecDepth 20000 in
theorem moX4_init {o : Hp} {F : Nat} {h : Hp} {x0 : Nat} {x1 : Nat} (hE : sX4_init F h x0 x1 = some o) : Le h o := by
  obtain ⟨a_1, ea_1, hE⟩ := nm_e2 hE
  obtain ⟨h_2, eh_2, hE⟩ := nm_e2 hE
  refine (le_C eh_2).tr ?_
  exact moX4_init_10 hE
set_option maxRecDepth 20000 in
theorem bX4_init_108 {p : Program} {l : Launch} {e : Env} {s : State} {m : MethodId} {args : Array Value} {below : List Frame} {meth : Method} {c : Code} {X : Ec} {h0 : Hp} {o : Hp} {k_90 : Hp → Nat → Int32 → Option (Hp)} {F : Nat} (C : Cx X p s m args meth c RX4 cX4_init 3 none "<init>") (hk_90 : ∀ (h : Hp) (x0 : Nat) (x2 : Int32) (H : Heap) (locs : List Loc), hK h x0 = 4 → Kl h0 h → Wx X h H → va_S (aA (eB X)) s.heap H locs → ∀ (ls : Array Slot), lv_has ls 3 [(0, .ref x0), (2, .int x2)] → k_90 h x0 x2 = some o → W p l e (rmA 2 43 h0 o) s m args below meth c H locs (hS h - hS h0) (hL h - hL h0) (MQ below (QVA X h0 o) args s (hS o - hS h0) (hL o - hL h0) (aA (eB X))) (F0 m 90 ls [])) (mk_90 : ∀ (h : Hp) (x0 : Nat) (x2 : Int32), k_90 h x0 x2 = some o → Le h o) {h : Hp} {x0 : Nat} {x2 : Int32} {t0 : Nat} {t1 : Int32} {t2 : Nat} {H : Heap} {locs : List Loc} (k_x0 : hK h x0 = 4) (k_t0 : hK h t0 = 3) (k_t2 : hK h t2 = 20) (hkl : Kl h0 h) (hW : Wx X h H) (hZ : va_S (aA (eB X)) s.heap H locs) (ls : Array Slot) (hl : lv_has ls 3 [(0, .ref x0), (2, .int x2)]) (hE : sX4_init_108 F k_90 h x0 x2 t0 t1 t2 = some o) : W p l e (rmA 2 43 h0 o) s m args below meth c H locs (hS h - hS h0) (hL h - hL h0) (MQ below (QVA X h0 o) args s (hS o - hS h0) (hL o - hL h0) (aA (eB X))) (F0 m 108 ls [.ref t0, .int t1, .ref t2]) := by
  obtain ⟨g_1, hE⟩ := gd_e hE
  obtain ⟨h_2, eh_2, hE⟩ := nm_e2 hE
  refine y_aast (t0 := 4) C hW hZ k_t2 (by decide) (by decide) rfl k_t0 (by decide) rfl (fun _ => rfl) g_1 eh_2 dX4_init_108 (fun _ _ hW km hZ => ?_)
  replace hkl := hkl.tr km.l
  refine x_wc km ?_
  replace k_x0 := km.at k_x0 (by decide)
  obtain ⟨v_3, ev_3, hE⟩ := nm_e2 hE
  refine lv_iinc (v := v_3) (lv' := [(2, .int v_3), (0, .ref x0)]) C.1 C.2.1 dX4_init_109 hl (k := 1) rfl (by rw [ev_3]; rfl) (by decide) rfl (fun ls hl => ?_)
  refine lv_goto (tgt := 90) C.1 C.2.1 dX4_init_112 (by decide) ?_
  exact hk_90 _ _ _ _ _ k_x0 hkl hW hZ _ (lv_sub hl [1, 0] rfl) hE
set_option maxRecDepth 20000 in
theorem bX4_init_104 {p : Program} {l : Launch} {e : Env} {s : State} {m : MethodId} {args : Array Value} {below : List Frame} {meth : Method} {c : Code} {X : Ec} {h0 : Hp} {o : Hp} {k_90 : Hp → Nat → Int32 → Option (Hp)} {F : Nat} (C : Cx X p s m args meth c RX4 cX4_init 3 none "<init>") (hk_90 : ∀ (h : Hp) (x0 : Nat) (x2 : Int32) (H : Heap) (locs : List Loc), hK h x0 = 4 → Kl h0 h → Wx X h H → va_S (aA (eB X)) s.heap H locs → ∀ (ls : Array Slot), lv_has ls 3 [(0, .ref x0), (2, .int x2)] → k_90 h x0 x2 = some o → W p l e (rmA 2 43 h0 o) s m args below meth c H locs (hS h - hS h0) (hL h - hL h0) (MQ below (QVA X h0 o) args s (hS o - hS h0) (hL o - hL h0) (aA (eB X))) (F0 m 90 ls [])) (mk_90 : ∀ (h : Hp) (x0 : Nat) (x2 : Int32), k_90 h x0 x2 = some o → Le h o) {h : Hp} {x0 : Nat} {x2 : Int32} {t0 : Nat} {t1 : Int32} {t2 : Nat} {H : Heap} {locs : List Loc} (k_x0 : hK h x0 = 4) (k_t0 : hK h t0 = 3) (k_t2 : hK h t2 = 20) (hkl : Kl h0 h) (hW : Wx X h H) (hZ : va_S (aA (eB X)) s.heap H locs) (ls : Array Slot) (hl : lv_has ls 3 [(0, .ref x0), (2, .int x2)]) (hE : sX4_init_104 F k_90 h x0 x2 t0 t1 t2 = some o) : W p l e (rmA 2 43 h0 o) s m args below meth c H locs (hS h - hS h0) (hL h - hL h0) (MQ below (QVA X h0 o) args s (hS o - hS h0) (hL o - hL h0) (aA (eB X))) (F0 m 104 ls [.ref t0, .int t1, .ref t2]) := by
  refine lv_dup C.1 C.2.1 dX4_init_104 rfl ?_
  obtain ⟨o_1, eo_1, hE⟩ := cl_e hE
  have m1 := moX3_init eo_1
  have m2 := moX4_init_108 mk_90 hE
  refine x_kVA (o := o_1) hkl (z_runI (As := []) (rest := [.ref t0, .int t1, .ref t2]) C (ct_X3_init l X F k_t0 eo_1) ci_X4_49 hW hZ rfl hl.1 (Nat.le_of_ble_eq_true rfl) rfl dX4_init_105 ⟨Nat.le_of_ble_eq_true rfl, Nat.le_of_ble_eq_true rfl⟩ (rm_ok hkl m1 m2)) hZ (fun _ _ hW km hZ => ?_)
  replace hkl := hkl.tr km
  replace k_x0 := km.at k_x0 (by decide)
  replace k_t0 := km.at k_t0 (by decide)
  replace k_t2 := km.at k_t2 (by decide)
  exact bX4_init_108 C hk_90 mk_90 k_x0 k_t0 k_t2 hkl hW hZ _ (lv_sub hl [0, 1] rfl) hE
set_option maxRecDepth 20000 in
theorem bX4_init_90 {p : Program} {l : Launch} {e : Env} {s : State} {m : MethodId} {args : Array Value} {below : List Frame} {meth : Method} {c : Code} {X : Ec} {h0 : Hp} {o : Hp} {F : Nat} (C : Cx X p s m args meth c RX4 cX4_init 3 none "<init>") : ∀ (f : Nat) {h : Hp} {x0 : Nat} {x2 : Int32} {H : Heap} {locs : List Loc} (k_x0 : hK h x0 = 4), Kl h0 h → Wx X h H → va_S (aA (eB X)) s.heap H locs → ∀ (ls : Array Slot), lv_has ls 3 [(0, .ref x0), (2, .int x2)] → sX4_init_90 F f h x0 x2 = some o → W p l e (rmA 2 43 h0 o) s m args below meth c H locs (hS h - hS h0) (hL h - hL h0) (MQ below (QVA X h0 o) args s (hS o - hS h0) (hL o - hL h0) (aA (eB X))) (F0 m 90 ls []) := by
  intro f
  induction f with
  | zero =>
    intro h x0 x2 H locs k_x0 hkl hW hZ ls hl hE
    rw [sX4_init_90] at hE
    cases hE
  | succ f ih =>
    intro h x0 x2 H locs k_x0 hkl hW hZ ls hl hE
    rw [sX4_init_90] at hE
    have mk_90 : ∀ (h : Hp) (x0 : Nat) (x2 : Int32), sX4_init_90 F f h x0 x2 = some o → Le h o := fun h x0 x2 hE => moX4_init_90 _ hE
    have hk_90 : ∀ (h : Hp) (x0 : Nat) (x2 : Int32) (H : Heap) (locs : List Loc), hK h x0 = 4 → Kl h0 h → Wx X h H → va_S (aA (eB X)) s.heap H locs → ∀ (ls : Array Slot), lv_has ls 3 [(0, .ref x0), (2, .int x2)] → sX4_init_90 F f h x0 x2 = some o → W p l e (rmA 2 43 h0 o) s m args below meth c H locs (hS h - hS h0) (hL h - hL h0) (MQ below (QVA X h0 o) args s (hS o - hS h0) (hL o - hL h0) (aA (eB X))) (F0 m 90 ls []) := fun h x0 x2 H locs k_x0 a b c ls hl hE => ih k_x0 a b c ls hl hE
    refine lv_iload_n C.1 C.2.1 dX4_init_90 rfl (lv_at hl 1 rfl) ?_
    refine lv_bipush (v := (8 : Int32)) C.1 C.2.1 dX4_init_91 (by decide) ?_
    refine lv_icmp_gt (tgt := 115) C.1 C.2.1 dX4_init_93 (by decide) (fun c_1 => ?_) (fun c_1 => ?_)
    · have hE := br_p hE c_1
      exact x_vretA C rfl hW hZ hkl hE dX4_init_115
    · have hE := br_n hE c_1
      refine lv_aload_n C.1 C.2.1 dX4_init_96 rfl (lv_at hl 0 rfl) ?_
      obtain ⟨r_2, er_2, hE⟩ := cl_e hE
      refine gf_X4_13 C hW k_x0 er_2 dX4_init_97 (fun k_r_2 => ?_)
      refine lv_iload_n C.1 C.2.1 dX4_init_100 rfl (lv_at hl 1 rfl) ?_
      obtain ⟨a_3, ea_3, hE⟩ := nm_e2 hE
      obtain ⟨h_4, eh_4, hE⟩ := nm_e2 hE
      refine y_new C hW hZ hkl (moX4_init_104 mk_90 hE) ⟨rfl, rfl⟩ i_X3 tyX3 tyX3_ok (by decide) rfl rfl dv_X3 m_524 m_266 m_8 eh_4 dX4_init_101 (fun _ hW km k_a_3 hZ => ?_)
      replace hkl := hkl.tr km
      refine x_nmA ea_3 ?_
      rw [← ea_3] at k_a_3
      replace k_x0 := km.at k_x0 (by decide)
      replace k_r_2 := km.at k_r_2 (by decide)
      exact bX4_init_104 C hk_90 mk_90 k_x0 k_a_3 k_r_2 hkl hW hZ _ (lv_sub hl [0, 1] rfl) hE
set_option maxRecDepth 20000 in
theorem bX4_init_75 {p : Program} {l : Launch} {e : Env} {s : State} {m : MethodId} {args : Array Value} {below : List Frame} {meth : Method} {c : Code} {X : Ec} {h0 : Hp} {o : Hp} {F : Nat} (C : Cx X p s m args meth c RX4 cX4_init 3 none "<init>") {h : Hp} {x0 : Nat} {x1 : Nat} {t0 : Nat} {t1 : Nat} {H : Heap} {locs : List Loc} (k_x0 : hK h x0 = 4) (k_x1 : hK h x1 = 5) (k_t0 : hK h t0 = 17) (k_t1 : hK h t1 = 4) (hkl : Kl h0 h) (hW : Wx X h H) (hZ : va_S (aA (eB X)) s.heap H locs) (ls : Array Slot) (hl : lv_has ls 3 [(0, .ref x0), (1, .ref x1)]) (hE : sX4_init_75 F h x0 x1 t0 t1 = some o) : W p l e (rmA 2 43 h0 o) s m args below meth c H locs (hS h - hS h0) (hL h - hL h0) (MQ below (QVA X h0 o) args s (hS o - hS h0) (hL o - hL h0) (aA (eB X))) (F0 m 75 ls [.ref t0, .ref t1]) := by
  obtain ⟨h_1, eh_1, hE⟩ := nm_e2 hE
  refine pf_X4_38 C hW hZ rfl k_t1 k_t0 eh_1 dX4_init_75 (fun _ _ hW km hZ => ?_)
  replace hkl := hkl.tr km.l
  refine x_wc km ?_
  replace k_x0 := km.at k_x0 (by decide)
  replace k_x1 := km.at k_x1 (by decide)
  refine lv_aload_n C.1 C.2.1 dX4_init_78 rfl (lv_at hl 0 rfl) ?_
  refine lv_iconst (v := (-1 : Int32)) C.1 C.2.1 dX4_init_79 (by decide) ?_
  obtain ⟨h_2, eh_2, hE⟩ := nm_e2 hE
  refine pf_X4_41 C hW hZ k_x0 eh_2 dX4_init_80 (fun _ _ hW km hZ => ?_)
  replace hkl := hkl.tr km.l
  refine x_wc km ?_
  replace k_x0 := km.at k_x0 (by decide)
  replace k_x1 := km.at k_x1 (by decide)
  refine lv_aload_n C.1 C.2.1 dX4_init_83 rfl (lv_at hl 0 rfl) ?_
  refine lv_aload_n C.1 C.2.1 dX4_init_84 rfl (lv_at hl 1 rfl) ?_
  obtain ⟨h_3, eh_3, hE⟩ := nm_e2 hE
  refine pf_X4_45 C hW hZ rfl k_x0 k_x1 eh_3 dX4_init_85 (fun _ _ hW km hZ => ?_)
  replace hkl := hkl.tr km.l
  refine x_wc km ?_
  replace k_x0 := km.at k_x0 (by decide)
  replace k_x1 := km.at k_x1 (by decide)
  refine lv_iconst (v := (0 : Int32)) C.1 C.2.1 dX4_init_88 (by decide) ?_
  refine lv_istore_n (lv' := [(2, .int (0 : Int32)), (0, .ref x0), (1, .ref x1)]) C.1 C.2.1 dX4_init_89 rfl hl (by decide) rfl (fun ls hl => ?_)
  exact bX4_init_90 C F k_x0 hkl hW hZ _ (lv_sub hl [1, 0] rfl) hE
set_option maxRecDepth 20000 in
theorem bX4_init_66 {p : Program} {l : Launch} {e : Env} {s : State} {m : MethodId} {args : Array Value} {below : List Frame} {meth : Method} {c : Code} {X : Ec} {h0 : Hp} {o : Hp} {F : Nat} (C : Cx X p s m args meth c RX4 cX4_init 3 none "<init>") {h : Hp} {x0 : Nat} {x1 : Nat} {t0 : Nat} {t1 : Nat} {H : Heap} {locs : List Loc} (k_x0 : hK h x0 = 4) (k_x1 : hK h x1 = 5) (k_t0 : hK h t0 = 17) (k_t1 : hK h t1 = 4) (hkl : Kl h0 h) (hW : Wx X h H) (hZ : va_S (aA (eB X)) s.heap H locs) (ls : Array Slot) (hl : lv_has ls 3 [(0, .ref x0), (1, .ref x1)]) (hE : sX4_init_66 F h x0 x1 t0 t1 = some o) : W p l e (rmA 2 43 h0 o) s m args below meth c H locs (hS h - hS h0) (hL h - hL h0) (MQ below (QVA X h0 o) args s (hS o - hS h0) (hL o - hL h0) (aA (eB X))) (F0 m 66 ls [.ref t0, .ref t1]) := by
  obtain ⟨h_1, eh_1, hE⟩ := nm_e2 hE
  refine pf_X4_35 C hW hZ rfl k_t1 k_t0 eh_1 dX4_init_66 (fun _ _ hW km hZ => ?_)
  replace hkl := hkl.tr km.l
  refine x_wc km ?_
  replace k_x0 := km.at k_x0 (by decide)
  replace k_x1 := km.at k_x1 (by decide)
  refine lv_aload_n C.1 C.2.1 dX4_init_69 rfl (lv_at hl 0 rfl) ?_
  refine lv_sipush (v := (4096 : Int32)) C.1 C.2.1 dX4_init_70 (by decide) ?_
  obtain ⟨a_2, ea_2, hE⟩ := nm_e2 hE
  obtain ⟨h_3, eh_3, hE⟩ := nm_e2 hE
  refine y_newa (k := 17) (ty := .int) (t0 := 1) C hW hZ hkl (moX4_init_75 hE) ⟨rfl, rfl⟩ (by decide) (by decide) rfl rfl (by intro C hC; cases hC) hdef_17 m_54 (by decide) (by decide) eh_3 dX4_init_73 (fun _ hW km k_a_2 hZ => ?_)
  replace hkl := hkl.tr km
  refine x_nmA ea_2 ?_
  rw [← ea_2] at k_a_2
  replace k_x0 := km.at k_x0 (by decide)
  replace k_x1 := km.at k_x1 (by decide)
  exact bX4_init_75 C k_x0 k_x1 k_a_2 k_x0 hkl hW hZ _ (lv_sub hl [0, 1] rfl) hE
set_option maxRecDepth 20000 in
theorem bX4_init_57 {p : Program} {l : Launch} {e : Env} {s : State} {m : MethodId} {args : Array Value} {below : List Frame} {meth : Method} {c : Code} {X : Ec} {h0 : Hp} {o : Hp} {F : Nat} (C : Cx X p s m args meth c RX4 cX4_init 3 none "<init>") {h : Hp} {x0 : Nat} {x1 : Nat} {t0 : Nat} {t1 : Nat} {H : Heap} {locs : List Loc} (k_x0 : hK h x0 = 4) (k_x1 : hK h x1 = 5) (k_t0 : hK h t0 = 17) (k_t1 : hK h t1 = 4) (hkl : Kl h0 h) (hW : Wx X h H) (hZ : va_S (aA (eB X)) s.heap H locs) (ls : Array Slot) (hl : lv_has ls 3 [(0, .ref x0), (1, .ref x1)]) (hE : sX4_init_57 F h x0 x1 t0 t1 = some o) : W p l e (rmA 2 43 h0 o) s m args below meth c H locs (hS h - hS h0) (hL h - hL h0) (MQ below (QVA X h0 o) args s (hS o - hS h0) (hL o - hL h0) (aA (eB X))) (F0 m 57 ls [.ref t0, .ref t1]) := by
  obtain ⟨h_1, eh_1, hE⟩ := nm_e2 hE
  refine pf_X4_32 C hW hZ rfl k_t1 k_t0 eh_1 dX4_init_57 (fun _ _ hW km hZ => ?_)
  replace hkl := hkl.tr km.l
  refine x_wc km ?_
  replace k_x0 := km.at k_x0 (by decide)
  replace k_x1 := km.at k_x1 (by decide)
  refine lv_aload_n C.1 C.2.1 dX4_init_60 rfl (lv_at hl 0 rfl) ?_
  refine lv_sipush (v := (4096 : Int32)) C.1 C.2.1 dX4_init_61 (by decide) ?_
  obtain ⟨a_2, ea_2, hE⟩ := nm_e2 hE
  obtain ⟨h_3, eh_3, hE⟩ := nm_e2 hE
  refine y_newa (k := 17) (ty := .int) (t0 := 1) C hW hZ hkl (moX4_init_66 hE) ⟨rfl, rfl⟩ (by decide) (by decide) rfl rfl (by intro C hC; cases hC) hdef_17 m_54 (by decide) (by decide) eh_3 dX4_init_64 (fun _ hW km k_a_2 hZ => ?_)
  replace hkl := hkl.tr km
  refine x_nmA ea_2 ?_
  rw [← ea_2] at k_a_2
  replace k_x0 := km.at k_x0 (by decide)
  replace k_x1 := km.at k_x1 (by decide)
  exact bX4_init_66 C k_x0 k_x1 k_a_2 k_x0 hkl hW hZ _ (lv_sub hl [0, 1] rfl) hE
set_option maxRecDepth 20000 in
theorem bX4_init_48 {p : Program} {l : Launch} {e : Env} {s : State} {m : MethodId} {args : Array Value} {below : List Frame} {meth : Method} {c : Code} {X : Ec} {h0 : Hp} {o : Hp} {F : Nat} (C : Cx X p s m args meth c RX4 cX4_init 3 none "<init>") {h : Hp} {x0 : Nat} {x1 : Nat} {t0 : Nat} {t1 : Nat} {H : Heap} {locs : List Loc} (k_x0 : hK h x0 = 4) (k_x1 : hK h x1 = 5) (k_t0 : hK h t0 = 17) (k_t1 : hK h t1 = 4) (hkl : Kl h0 h) (hW : Wx X h H) (hZ : va_S (aA (eB X)) s.heap H locs) (ls : Array Slot) (hl : lv_has ls 3 [(0, .ref x0), (1, .ref x1)]) (hE : sX4_init_48 F h x0 x1 t0 t1 = some o) : W p l e (rmA 2 43 h0 o) s m args below meth c H locs (hS h - hS h0) (hL h - hL h0) (MQ below (QVA X h0 o) args s (hS o - hS h0) (hL o - hL h0) (aA (eB X))) (F0 m 48 ls [.ref t0, .ref t1]) := by
  obtain ⟨h_1, eh_1, hE⟩ := nm_e2 hE
  refine pf_X4_29 C hW hZ rfl k_t1 k_t0 eh_1 dX4_init_48 (fun _ _ hW km hZ => ?_)
  replace hkl := hkl.tr km.l
  refine x_wc km ?_
  replace k_x0 := km.at k_x0 (by decide)
  replace k_x1 := km.at k_x1 (by decide)
  refine lv_aload_n C.1 C.2.1 dX4_init_51 rfl (lv_at hl 0 rfl) ?_
  refine lv_sipush (v := (4096 : Int32)) C.1 C.2.1 dX4_init_52 (by decide) ?_
  obtain ⟨a_2, ea_2, hE⟩ := nm_e2 hE
  obtain ⟨h_3, eh_3, hE⟩ := nm_e2 hE
  refine y_newa (k := 17) (ty := .int) (t0 := 1) C hW hZ hkl (moX4_init_57 hE) ⟨rfl, rfl⟩ (by decide) (by decide) rfl rfl (by intro C hC; cases hC) hdef_17 m_54 (by decide) (by decide) eh_3 dX4_init_55 (fun _ hW km k_a_2 hZ => ?_)
  replace hkl := hkl.tr km
  refine x_nmA ea_2 ?_
  rw [← ea_2] at k_a_2
  replace k_x0 := km.at k_x0 (by decide)
  replace k_x1 := km.at k_x1 (by decide)
  exact bX4_init_57 C k_x0 k_x1 k_a_2 k_x0 hkl hW hZ _ (lv_sub hl [0, 1] rfl) hE
set_option maxRecDepth 20000 in
theorem bX4_init_39 {p : Program} {l : Launch} {e : Env} {s : State} {m : MethodId} {args : Array Value} {below : List Frame} {meth : Method} {c : Code} {X : Ec} {h0 : Hp} {o : Hp} {F : Nat} (C : Cx X p s m args meth c RX4 cX4_init 3 none "<init>") {h : Hp} {x0 : Nat} {x1 : Nat} {t0 : Nat} {t1 : Nat} {H : Heap} {locs : List Loc} (k_x0 : hK h x0 = 4) (k_x1 : hK h x1 = 5) (k_t0 : hK h t0 = 17) (k_t1 : hK h t1 = 4) (hkl : Kl h0 h) (hW : Wx X h H) (hZ : va_S (aA (eB X)) s.heap H locs) (ls : Array Slot) (hl : lv_has ls 3 [(0, .ref x0), (1, .ref x1)]) (hE : sX4_init_39 F h x0 x1 t0 t1 = some o) : W p l e (rmA 2 43 h0 o) s m args below meth c H locs (hS h - hS h0) (hL h - hL h0) (MQ below (QVA X h0 o) args s (hS o - hS h0) (hL o - hL h0) (aA (eB X))) (F0 m 39 ls [.ref t0, .ref t1]) := by
  obtain ⟨h_1, eh_1, hE⟩ := nm_e2 hE
  refine pf_X4_26 C hW hZ rfl k_t1 k_t0 eh_1 dX4_init_39 (fun _ _ hW km hZ => ?_)
  replace hkl := hkl.tr km.l
  refine x_wc km ?_
  replace k_x0 := km.at k_x0 (by decide)
  replace k_x1 := km.at k_x1 (by decide)
  refine lv_aload_n C.1 C.2.1 dX4_init_42 rfl (lv_at hl 0 rfl) ?_
  refine lv_sipush (v := (4096 : Int32)) C.1 C.2.1 dX4_init_43 (by decide) ?_
  obtain ⟨a_2, ea_2, hE⟩ := nm_e2 hE
  obtain ⟨h_3, eh_3, hE⟩ := nm_e2 hE
  refine y_newa (k := 17) (ty := .int) (t0 := 1) C hW hZ hkl (moX4_init_48 hE) ⟨rfl, rfl⟩ (by decide) (by decide) rfl rfl (by intro C hC; cases hC) hdef_17 m_54 (by decide) (by decide) eh_3 dX4_init_46 (fun _ hW km k_a_2 hZ => ?_)
  replace hkl := hkl.tr km
  refine x_nmA ea_2 ?_
  rw [← ea_2] at k_a_2
  replace k_x0 := km.at k_x0 (by decide)
  replace k_x1 := km.at k_x1 (by decide)
  exact bX4_init_48 C k_x0 k_x1 k_a_2 k_x0 hkl hW hZ _ (lv_sub hl [0, 1] rfl) hE
set_option maxRecDepth 20000 in
theorem bX4_init_31 {p : Program} {l : Launch} {e : Env} {s : State} {m : MethodId} {args : Array Value} {below : List Frame} {meth : Method} {c : Code} {X : Ec} {h0 : Hp} {o : Hp} {F : Nat} (C : Cx X p s m args meth c RX4 cX4_init 3 none "<init>") {h : Hp} {x0 : Nat} {x1 : Nat} {t0 : Nat} {t1 : Nat} {H : Heap} {locs : List Loc} (k_x0 : hK h x0 = 4) (k_x1 : hK h x1 = 5) (k_t0 : hK h t0 = 17) (k_t1 : hK h t1 = 4) (hkl : Kl h0 h) (hW : Wx X h H) (hZ : va_S (aA (eB X)) s.heap H locs) (ls : Array Slot) (hl : lv_has ls 3 [(0, .ref x0), (1, .ref x1)]) (hE : sX4_init_31 F h x0 x1 t0 t1 = some o) : W p l e (rmA 2 43 h0 o) s m args below meth c H locs (hS h - hS h0) (hL h - hL h0) (MQ below (QVA X h0 o) args s (hS o - hS h0) (hL o - hL h0) (aA (eB X))) (F0 m 31 ls [.ref t0, .ref t1]) := by
  obtain ⟨h_1, eh_1, hE⟩ := nm_e2 hE
  refine pf_X4_22 C hW hZ rfl k_t1 k_t0 eh_1 dX4_init_31 (fun _ _ hW km hZ => ?_)
  replace hkl := hkl.tr km.l
  refine x_wc km ?_
  replace k_x0 := km.at k_x0 (by decide)
  replace k_x1 := km.at k_x1 (by decide)
  refine lv_aload_n C.1 C.2.1 dX4_init_34 rfl (lv_at hl 0 rfl) ?_
  refine lv_bipush (v := (8 : Int32)) C.1 C.2.1 dX4_init_35 (by decide) ?_
  obtain ⟨a_2, ea_2, hE⟩ := nm_e2 hE
  obtain ⟨h_3, eh_3, hE⟩ := nm_e2 hE
  refine y_newa (k := 17) (ty := .int) (t0 := 1) C hW hZ hkl (moX4_init_39 hE) ⟨rfl, rfl⟩ (by decide) (by decide) rfl rfl (by intro C hC; cases hC) hdef_17 m_54 (by decide) (by decide) eh_3 dX4_init_37 (fun _ hW km k_a_2 hZ => ?_)
  replace hkl := hkl.tr km
  refine x_nmA ea_2 ?_
  rw [← ea_2] at k_a_2
  replace k_x0 := km.at k_x0 (by decide)
  replace k_x1 := km.at k_x1 (by decide)
  exact bX4_init_39 C k_x0 k_x1 k_a_2 k_x0 hkl hW hZ _ (lv_sub hl [0, 1] rfl) hE
set_option maxRecDepth 20000 in
theorem bX4_init_23 {p : Program} {l : Launch} {e : Env} {s : State} {m : MethodId} {args : Array Value} {below : List Frame} {meth : Method} {c : Code} {X : Ec} {h0 : Hp} {o : Hp} {F : Nat} (C : Cx X p s m args meth c RX4 cX4_init 3 none "<init>") {h : Hp} {x0 : Nat} {x1 : Nat} {t0 : Nat} {t1 : Nat} {H : Heap} {locs : List Loc} (k_x0 : hK h x0 = 4) (k_x1 : hK h x1 = 5) (k_t0 : hK h t0 = 23) (k_t1 : hK h t1 = 4) (hkl : Kl h0 h) (hW : Wx X h H) (hZ : va_S (aA (eB X)) s.heap H locs) (ls : Array Slot) (hl : lv_has ls 3 [(0, .ref x0), (1, .ref x1)]) (hE : sX4_init_23 F h x0 x1 t0 t1 = some o) : W p l e (rmA 2 43 h0 o) s m args below meth c H locs (hS h - hS h0) (hL h - hL h0) (MQ below (QVA X h0 o) args s (hS o - hS h0) (hL o - hL h0) (aA (eB X))) (F0 m 23 ls [.ref t0, .ref t1]) := by
  obtain ⟨h_1, eh_1, hE⟩ := nm_e2 hE
  refine pf_X4_19 C hW hZ rfl k_t1 k_t0 eh_1 dX4_init_23 (fun _ _ hW km hZ => ?_)
  replace hkl := hkl.tr km.l
  refine x_wc km ?_
  replace k_x0 := km.at k_x0 (by decide)
  replace k_x1 := km.at k_x1 (by decide)
  refine lv_aload_n C.1 C.2.1 dX4_init_26 rfl (lv_at hl 0 rfl) ?_
  refine lv_bipush (v := (9 : Int32)) C.1 C.2.1 dX4_init_27 (by decide) ?_
  obtain ⟨a_2, ea_2, hE⟩ := nm_e2 hE
  obtain ⟨h_3, eh_3, hE⟩ := nm_e2 hE
  refine y_newa (k := 17) (ty := .int) (t0 := 1) C hW hZ hkl (moX4_init_31 hE) ⟨rfl, rfl⟩ (by decide) (by decide) rfl rfl (by intro C hC; cases hC) hdef_17 m_54 (by decide) (by decide) eh_3 dX4_init_29 (fun _ hW km k_a_2 hZ => ?_)
  replace hkl := hkl.tr km
  refine x_nmA ea_2 ?_
  rw [← ea_2] at k_a_2
  replace k_x0 := km.at k_x0 (by decide)
  replace k_x1 := km.at k_x1 (by decide)
  exact bX4_init_31 C k_x0 k_x1 k_a_2 k_x0 hkl hW hZ _ (lv_sub hl [0, 1] rfl) hE
set_option maxRecDepth 20000 in
theorem bX4_init_10 {p : Program} {l : Launch} {e : Env} {s : State} {m : MethodId} {args : Array Value} {below : List Frame} {meth : Method} {c : Code} {X : Ec} {h0 : Hp} {o : Hp} {F : Nat} (C : Cx X p s m args meth c RX4 cX4_init 3 none "<init>") {h : Hp} {x0 : Nat} {x1 : Nat} {t0 : Nat} {t1 : Nat} {H : Heap} {locs : List Loc} (k_x0 : hK h x0 = 4) (k_x1 : hK h x1 = 5) (k_t0 : hK h t0 = 20) (k_t1 : hK h t1 = 4) (hkl : Kl h0 h) (hW : Wx X h H) (hZ : va_S (aA (eB X)) s.heap H locs) (ls : Array Slot) (hl : lv_has ls 3 [(0, .ref x0), (1, .ref x1)]) (hE : sX4_init_10 F h x0 x1 t0 t1 = some o) : W p l e (rmA 2 43 h0 o) s m args below meth c H locs (hS h - hS h0) (hL h - hL h0) (MQ below (QVA X h0 o) args s (hS o - hS h0) (hL o - hL h0) (aA (eB X))) (F0 m 10 ls [.ref t0, .ref t1]) := by
  obtain ⟨h_1, eh_1, hE⟩ := nm_e2 hE
  refine pf_X4_13 C hW hZ rfl k_t1 k_t0 eh_1 dX4_init_10 (fun _ _ hW km hZ => ?_)
  replace hkl := hkl.tr km.l
  refine x_wc km ?_
  replace k_x0 := km.at k_x0 (by decide)
  replace k_x1 := km.at k_x1 (by decide)
  refine lv_aload_n C.1 C.2.1 dX4_init_13 rfl (lv_at hl 0 rfl) ?_
  refine lv_bipush (v := (8 : Int32)) C.1 C.2.1 dX4_init_14 (by decide) ?_
  refine lv_sipush (v := (4096 : Int32)) C.1 C.2.1 dX4_init_16 (by decide) ?_
  obtain ⟨a_2, ea_2, hE⟩ := nm_e2 hE
  obtain ⟨h_3, eh_3, hE⟩ := nm_e2 hE
  refine y_mna C hW hZ hkl (moX4_init_23 hE) ⟨rfl, rfl⟩ m_526 m_54 (by decide) (by decide) (by decide) (by decide) (by decide) eh_3 dX4_init_19 (fun _ hW km k_a_2 hZ => ?_)
  replace hkl := hkl.tr km
  refine x_nmA ea_2 ?_
  rw [← ea_2] at k_a_2
  replace k_x0 := km.at k_x0 (by decide)
  replace k_x1 := km.at k_x1 (by decide)
  exact bX4_init_23 C k_x0 k_x1 k_a_2 k_x0 hkl hW hZ _ (lv_sub hl [0, 1] rfl) hE
set_option maxRecDepth 20000 in
theorem ct_X4_init (l : Launch) (X : Ec) (F : Nat) {h : Hp} {x0 : Nat} {x1 : Nat} {o : Hp} (k_x0 : hK h x0 = 4) (k_x1 : hK h x1 = 5) (hE : sX4_init F h x0 x1 = some o) : MetVA l yX4_init cX4_init 3 none 2 43 X [.ref x0, .ref x1] h o := by
  refine x_metA (oh := o) (by decide) (Nat.le_of_ble_eq_true rfl) ?_
  intro p e s m below meth c ls C hl hW hZ
  have hl : lv_has ls 3 [(0, .ref x0), (1, .ref x1)] := hl
  have hkl : Kl h h := Kl.rf h
  refine lv_aload_n C.1 C.2.1 dX4_init_0 rfl (lv_at hl 0 rfl) ?_
  refine W.objInit C.1 C.2.1 C.2.2.2.1 (C.2.2.2.2.1 _ m_523) (C.2.2.2.2.1 _ m_32) (C.2.2.2.2.1 _ m_33) rfl (by rw [C.2.2.1]; exact hl.1) rfl dX4_init_1 (Nat.le_of_ble_eq_true rfl) (Nat.le_of_ble_eq_true rfl) ?_
  refine W.eq (g2 := F0 m 4 ls []) rfl ?_
  refine lv_aload_n C.1 C.2.1 dX4_init_4 rfl (lv_at hl 0 rfl) ?_
  refine lv_bipush (v := (9 : Int32)) C.1 C.2.1 dX4_init_5 (by decide) ?_
  obtain ⟨a_1, ea_1, hE⟩ := nm_e2 hE
  obtain ⟨h_2, eh_2, hE⟩ := nm_e2 hE
  refine y_newq (k := 20) (t0 := 4) C hW hZ hkl (moX4_init_10 hE) ⟨rfl, rfl⟩ (by decide) (by decide) rfl m_524 C.2.2.2.2.2.2.2.2.2.2.2.2.2.1 (by decide) (by decide) eh_2 dX4_init_7 (fun _ hW km k_a_1 hZ => ?_)
  replace hkl := hkl.tr km
  refine x_nmA ea_1 ?_
  rw [← ea_1] at k_a_1
  replace k_x0 := km.at k_x0 (by decide)
  replace k_x1 := km.at k_x1 (by decide)
  exact bX4_init_10 C k_x0 k_x1 k_a_1 k_x0 hkl hW hZ _ (lv_sub hl [0, 1] rfl) hE
