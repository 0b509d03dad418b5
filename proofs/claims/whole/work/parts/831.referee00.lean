set_option maxRecDepth 100000 in
theorem m_264 : Cond.methodLink RX5 3 objectInit ∈ W0 := w0_in (List.mem_append_right _ (List.mem_of_getElem? (i := 264) rfl)) rfl
set_option maxRecDepth 100000 in
theorem m_265 : Cond.classLink RX5 15 RX3 ∈ W0 := w0_in (List.mem_append_right _ (List.mem_of_getElem? (i := 265) rfl)) rfl
set_option maxRecDepth 100000 in
theorem m_266 : Cond.instantiable RX3 11 ∈ W0 := w0_in (List.mem_append_right _ (List.mem_of_getElem? (i := 266) rfl)) rfl
set_option maxRecDepth 100000 in
theorem m_267 : Cond.methodLink RX5 17 yX3_init ∈ W0 := w0_in (List.mem_append_right _ (List.mem_of_getElem? (i := 267) rfl)) rfl
set_option maxRecDepth 100000 in
theorem m_268 : Cond.instanceMethod yX3_init ∈ W0 := w0_in (List.mem_append_right _ (List.mem_of_getElem? (i := 268) rfl)) rfl
set_option maxRecDepth 100000 in
theorem m_269 : Cond.code yX3_init cX3_init 1 none ∈ W0 := w0_in (List.mem_append_right _ (List.mem_of_getElem? (i := 269) rfl)) rfl
set_option maxRecDepth 100000 in
theorem m_344 : Cond.fieldLink RX5 22 (TX5 0).1 (TX5 0).2.1 (TX5 0).2.2.1 ∈ W0 := w0_in (List.mem_append_right _ (List.mem_of_getElem? (i := 344) rfl)) rfl
set_option maxRecDepth 100000 in
theorem m_345 : Cond.fieldLink RX5 26 (TX5 1).1 (TX5 1).2.1 (TX5 1).2.2.1 ∈ W0 := w0_in (List.mem_append_right _ (List.mem_of_getElem? (i := 345) rfl)) rfl
set_option maxRecDepth 100000 in
theorem m_346 : Cond.fieldLink RX5 9 (TX5 2).1 (TX5 2).2.1 (TX5 2).2.2.1 ∈ W0 := w0_in (List.mem_append_right _ (List.mem_of_getElem? (i := 346) rfl)) rfl
set_option maxRecDepth 100000 in
theorem m_348 : Cond.fieldLink RX5 18 (TX5 3).1 (TX5 3).2.1 (TX5 3).2.2.1 ∈ W0 := w0_in (List.mem_append_right _ (List.mem_of_getElem? (i := 348) rfl)) rfl
theorem i_X5 : ∀ w ∈ u_ws RX5 TX5 10, w ∈ W0 := by
  intro w hw
  exact w0_in (List.mem_append_right _ ((by decide +kernel : ∀ w ∈ u_ws RX5 TX5 10, w ∈ tables_1) w hw)) ((by decide +kernel : ∀ w ∈ u_ws RX5 TX5 10, goodWord w = true) w hw)
theorem dv_X3 : ∀ j, j < 11 → defaultValue (tyX3 j) = dV ((tl 3).getD j 2) := by decide +kernel
section
variable {p : Program} {l : Launch} {e : Env} {R : Room} {s : State} {m : MethodId} {args : Array Value} {below : List Frame} {meth : Method} {c : Code} {H : Heap} {locs : List Loc} {cells slots : Nat} {Q : State → Prop}
variable {cc : ByteArray} {pc : Nat} {ls : Array Slot} {rest : List Value} {X : Ec} {h h1 : Hp} {nL : Nat} {rt : Option FieldType} {mn : String}
theorem pf_X5_18 {a r : Nat} (C : Cx X p s m args meth c RX5 cc nL rt mn) (hW : Wx X h H) (hZ : va_S (aA (eB X)) s.heap H locs) (hmn : mn = "<init>") (ha : hK h a = 5) (hr : hK h r = 3) (eh : h1 = wR h a 3 (some r)) (hdg : decode cc pc = .ok (.putfield 18, 3)) (kk : ∀ (H1 : Heap) (locs1 : List Loc), Wx X h1 H1 → Km h h1 → va_S (aA (eB X)) s.heap H1 locs1 → W p l e R s m args below meth c H1 locs1 cells slots Q (F0 m (pc + 3) ls rest)) : W p l e R s m args below meth c H locs cells slots Q (F0 m pc ls (.ref r :: .ref a :: rest)) :=
  y_putrF (ty := .object "GameRules$Position") C hW hZ ha i_X5 tyX5 tyX5_ok nmX5 (by decide) rfl rfl (by decide) m_348 rfl hmn rfl (by decide +kernel) rfl rfl rfl hr rfl (by decide) eh hdg kk
theorem pf_X5_22 {a r : Nat} (C : Cx X p s m args meth c RX5 cc nL rt mn) (hW : Wx X h H) (hZ : va_S (aA (eB X)) s.heap H locs) (hmn : mn = "<init>") (ha : hK h a = 5) (hr : hK h r = 1) (eh : h1 = wR h a 0 (some r)) (hdg : decode cc pc = .ok (.putfield 22, 3)) (kk : ∀ (H1 : Heap) (locs1 : List Loc), Wx X h1 H1 → Km h h1 → va_S (aA (eB X)) s.heap H1 locs1 → W p l e R s m args below meth c H1 locs1 cells slots Q (F0 m (pc + 3) ls rest)) : W p l e R s m args below meth c H locs cells slots Q (F0 m pc ls (.ref r :: .ref a :: rest)) :=
  y_putrF (ty := .object "GameRules$Law") C hW hZ ha i_X5 tyX5 tyX5_ok nmX5 (by decide) rfl rfl (by decide) m_344 rfl hmn rfl (by decide +kernel) rfl rfl rfl hr rfl (by decide) eh hdg kk
theorem pf_X5_26 {a r : Nat} (C : Cx X p s m args meth c RX5 cc nL rt mn) (hW : Wx X h H) (hZ : va_S (aA (eB X)) s.heap H locs) (hmn : mn = "<init>") (ha : hK h a = 5) (hr : hK h r = 10) (eh : h1 = wR h a 1 (some r)) (hdg : decode cc pc = .ok (.putfield 26, 3)) (kk : ∀ (H1 : Heap) (locs1 : List Loc), Wx X h1 H1 → Km h h1 → va_S (aA (eB X)) s.heap H1 locs1 → W p l e R s m args below meth c H1 locs1 cells slots Q (F0 m (pc + 3) ls rest)) : W p l e R s m args below meth c H locs cells slots Q (F0 m pc ls (.ref r :: .ref a :: rest)) :=
  y_putrF (ty := .object "GameRules$Ways") C hW hZ ha i_X5 tyX5 tyX5_ok nmX5 (by decide) rfl rfl (by decide) m_345 rfl hmn rfl (by decide +kernel) rfl rfl rfl hr rfl (by decide) eh hdg kk
theorem pf_X5_9 {a r : Nat} (C : Cx X p s m args meth c RX5 cc nL rt mn) (hW : Wx X h H) (hZ : va_S (aA (eB X)) s.heap H locs) (hmn : mn = "<init>") (ha : hK h a = 5) (hr : hK h r = 17) (eh : h1 = wR h a 2 (some r)) (hdg : decode cc pc = .ok (.putfield 9, 3)) (kk : ∀ (H1 : Heap) (locs1 : List Loc), Wx X h1 H1 → Km h h1 → va_S (aA (eB X)) s.heap H1 locs1 → W p l e R s m args below meth c H1 locs1 cells slots Q (F0 m (pc + 3) ls rest)) : W p l e R s m args below meth c H locs cells slots Q (F0 m pc ls (.ref r :: .ref a :: rest)) :=
  y_putrF (ty := .array .int) C hW hZ ha i_X5 tyX5 tyX5_ok nmX5 (by decide) rfl rfl (by decide) m_346 rfl hmn rfl (by decide +kernel) rfl rfl rfl hr rfl (by decide) eh hdg kk
end
theorem ci_X5_17 : cwi RX5 17 yX3_init cX3_init 1 0 := ⟨m_269, m_267, m_8, m_268, rfl, by decide, by decide, by decide +kernel⟩
theorem dX5_init_0 : decode cX5_init 0 = .ok (.aload_n 0, 1) := by decide +kernel
theorem dX5_init_1 : decode cX5_init 1 = .ok (.invokespecial 3, 3) := by decide +kernel
theorem dX5_init_4 : decode cX5_init 4 = .ok (.aload_n 0, 1) := by decide +kernel
theorem dX5_init_5 : decode cX5_init 5 = .ok (.sipush 4096, 3) := by decide +kernel
theorem dX5_init_8 : decode cX5_init 8 = .ok (.newarray .int, 2) := by decide +kernel
theorem dX5_init_10 : decode cX5_init 10 = .ok (.putfield 9, 3) := by decide +kernel
theorem dX5_init_13 : decode cX5_init 13 = .ok (.aload_n 0, 1) := by decide +kernel
theorem dX5_init_14 : decode cX5_init 14 = .ok (.new 15, 3) := by decide +kernel
theorem dX5_init_17 : decode cX5_init 17 = .ok (.dup, 1) := by decide +kernel
theorem dX5_init_18 : decode cX5_init 18 = .ok (.invokespecial 17, 3) := by decide +kernel
theorem dX5_init_21 : decode cX5_init 21 = .ok (.putfield 18, 3) := by decide +kernel
theorem dX5_init_24 : decode cX5_init 24 = .ok (.aload_n 0, 1) := by decide +kernel
theorem dX5_init_25 : decode cX5_init 25 = .ok (.aload_n 1, 1) := by decide +kernel
theorem dX5_init_26 : decode cX5_init 26 = .ok (.putfield 22, 3) := by decide +kernel
theorem dX5_init_29 : decode cX5_init 29 = .ok (.aload_n 0, 1) := by decide +kernel
theorem dX5_init_30 : decode cX5_init 30 = .ok (.aload_n 2, 1) := by decide +kernel
theorem dX5_init_31 : decode cX5_init 31 = .ok (.putfield 26, 3) := by decide +kernel
theorem dX5_init_34 : decode cX5_init 34 = .ok (.return_, 1) := by decide +kernel
set_option maxRecDepth 20000 in
theorem moX5_init_21 {o : Hp} {F : Nat} {h : Hp} {x0 : Nat} {x1 : Nat} {x2 : Nat} {t0 : Nat} {t1 : Nat} (hE : sX5_init_21 F h x0 x1 x2 t0 t1 = some o) : Le h o := by
  obtain ⟨h_1, eh_1, hE⟩ := nm_e2 hE
  refine (le_R eh_1).tr ?_
  obtain ⟨h_2, eh_2, hE⟩ := nm_e2 hE
  refine (le_R eh_2).tr ?_
  obtain ⟨h_3, eh_3, hE⟩ := nm_e2 hE
  refine (le_R eh_3).tr ?_
  exact le_some1 hE
set_option maxRecDepth 20000 in
theorem moX5_init_17 {o : Hp} {F : Nat} {h : Hp} {x0 : Nat} {x1 : Nat} {x2 : Nat} {t0 : Nat} {t1 : Nat} (hE : sX5_init_17 F h x0 x1 x2 t0 t1 = some o) : Le h o := by
  obtain ⟨o_1, eo_1, hE⟩ := cl_e hE
  refine (moX3_init eo_1).tr ?_
  exact moX5_init_21 hE
set_option maxRecDepth 20000 in
theorem moX5_init_10 {o : Hp} {F : Nat} {h : Hp} {x0 : Nat} {x1 : Nat} {x2 : Nat} {t0 : Nat} {t1 : Nat} (hE : sX5_init_10 F h x0 x1 x2 t0 t1 = some o) : Le h o := by
  obtain ⟨h_1, eh_1, hE⟩ := nm_e2 hE
  refine (le_R eh_1).tr ?_
  obtain ⟨a_2, ea_2, hE⟩ := nm_e2 hE
  obtain ⟨h_3, eh_3, hE⟩ := nm_e2 hE
  refine (le_C eh_3).tr ?_
  exact moX5_init_17 hE
set_option maxRecDepth 20000 in
theorem moX5_init {o : Hp} {F : Nat} {h : Hp} {x0 : Nat} {x1 : Nat} {x2 : Nat} (hE : sX5_init F h x0 x1 x2 = some o) : Le h o := by
  obtain ⟨a_1, ea_1, hE⟩ := nm_e2 hE
  obtain ⟨h_2, eh_2, hE⟩ := nm_e2 hE
  refine (le_C eh_2).tr ?_
  exact moX5_init_10 hE
set_option maxRecDepth 20000 in
theorem bX5_init_21 {p : Program} {l : Launch} {e : Env} {s : State} {m : MethodId} {args : Array Value} {below : List Frame} {meth : Method} {c : Code} {X : Ec} {h0 : Hp} {o : Hp} {F : Nat} (C : Cx X p s m args meth c RX5 cX5_init 3 none "<init>") {h : Hp} {x0 : Nat} {x1 : Nat} {x2 : Nat} {t0 : Nat} {t1 : Nat} {H : Heap} {locs : List Loc} (k_x0 : hK h x0 = 5) (k_x1 : hK h x1 = 1) (k_x2 : hK h x2 = 10) (k_t0 : hK h t0 = 3) (k_t1 : hK h t1 = 5) (hkl : Kl h0 h) (hW : Wx X h H) (hZ : va_S (aA (eB X)) s.heap H locs) (ls : Array Slot) (hl : lv_has ls 3 [(0, .ref x0), (1, .ref x1), (2, .ref x2)]) (hE : sX5_init_21 F h x0 x1 x2 t0 t1 = some o) : W p l e (rmA 2 43 h0 o) s m args below meth c H locs (hS h - hS h0) (hL h - hL h0) (MQ below (QVA X h0 o) args s (hS o - hS h0) (hL o - hL h0) (aA (eB X))) (F0 m 21 ls [.ref t0, .ref t1]) := by
  obtain ⟨h_1, eh_1, hE⟩ := nm_e2 hE
  refine pf_X5_18 C hW hZ rfl k_t1 k_t0 eh_1 dX5_init_21 (fun _ _ hW km hZ => ?_)
  replace hkl := hkl.tr km.l
  refine x_wc km ?_
  replace k_x0 := km.at k_x0 (by decide)
  replace k_x1 := km.at k_x1 (by decide)
  replace k_x2 := km.at k_x2 (by decide)
  refine lv_aload_n C.1 C.2.1 dX5_init_24 rfl (lv_at hl 0 rfl) ?_
  refine lv_aload_n C.1 C.2.1 dX5_init_25 rfl (lv_at hl 1 rfl) ?_
  obtain ⟨h_2, eh_2, hE⟩ := nm_e2 hE
  refine pf_X5_22 C hW hZ rfl k_x0 k_x1 eh_2 dX5_init_26 (fun _ _ hW km hZ => ?_)
  replace hkl := hkl.tr km.l
  refine x_wc km ?_
  replace k_x0 := km.at k_x0 (by decide)
  replace k_x1 := km.at k_x1 (by decide)
  replace k_x2 := km.at k_x2 (by decide)
  refine lv_aload_n C.1 C.2.1 dX5_init_29 rfl (lv_at hl 0 rfl) ?_
  refine lv_aload_n C.1 C.2.1 dX5_init_30 rfl (lv_at hl 2 rfl) ?_
  obtain ⟨h_3, eh_3, hE⟩ := nm_e2 hE
  refine pf_X5_26 C hW hZ rfl k_x0 k_x2 eh_3 dX5_init_31 (fun _ _ hW km hZ => ?_)
  replace hkl := hkl.tr km.l
  refine x_wc km ?_
  replace k_x0 := km.at k_x0 (by decide)
  replace k_x1 := km.at k_x1 (by decide)
  replace k_x2 := km.at k_x2 (by decide)
  exact x_vretA C rfl hW hZ hkl hE dX5_init_34
set_option maxRecDepth 20000 in
theorem bX5_init_17 {p : Program} {l : Launch} {e : Env} {s : State} {m : MethodId} {args : Array Value} {below : List Frame} {meth : Method} {c : Code} {X : Ec} {h0 : Hp} {o : Hp} {F : Nat} (C : Cx X p s m args meth c RX5 cX5_init 3 none "<init>") {h : Hp} {x0 : Nat} {x1 : Nat} {x2 : Nat} {t0 : Nat} {t1 : Nat} {H : Heap} {locs : List Loc} (k_x0 : hK h x0 = 5) (k_x1 : hK h x1 = 1) (k_x2 : hK h x2 = 10) (k_t0 : hK h t0 = 3) (k_t1 : hK h t1 = 5) (hkl : Kl h0 h) (hW : Wx X h H) (hZ : va_S (aA (eB X)) s.heap H locs) (ls : Array Slot) (hl : lv_has ls 3 [(0, .ref x0), (1, .ref x1), (2, .ref x2)]) (hE : sX5_init_17 F h x0 x1 x2 t0 t1 = some o) : W p l e (rmA 2 43 h0 o) s m args below meth c H locs (hS h - hS h0) (hL h - hL h0) (MQ below (QVA X h0 o) args s (hS o - hS h0) (hL o - hL h0) (aA (eB X))) (F0 m 17 ls [.ref t0, .ref t1]) := by
  refine lv_dup C.1 C.2.1 dX5_init_17 rfl ?_
  obtain ⟨o_1, eo_1, hE⟩ := cl_e hE
  have m1 := moX3_init eo_1
  have m2 := moX5_init_21 hE
  refine x_kVA (o := o_1) hkl (z_runI (As := []) (rest := [.ref t0, .ref t1]) C (ct_X3_init l X F k_t0 eo_1) ci_X5_17 hW hZ rfl hl.1 (Nat.le_of_ble_eq_true rfl) rfl dX5_init_18 ⟨Nat.le_of_ble_eq_true rfl, Nat.le_of_ble_eq_true rfl⟩ (rm_ok hkl m1 m2)) hZ (fun _ _ hW km hZ => ?_)
  replace hkl := hkl.tr km
  replace k_x0 := km.at k_x0 (by decide)
  replace k_x1 := km.at k_x1 (by decide)
  replace k_x2 := km.at k_x2 (by decide)
  replace k_t0 := km.at k_t0 (by decide)
  replace k_t1 := km.at k_t1 (by decide)
  exact bX5_init_21 C k_x0 k_x1 k_x2 k_t0 k_t1 hkl hW hZ _ (lv_sub hl [0, 1, 2] rfl) hE
set_option maxRecDepth 20000 in
theorem bX5_init_10 {p : Program} {l : Launch} {e : Env} {s : State} {m : MethodId} {args : Array Value} {below : List Frame} {meth : Method} {c : Code} {X : Ec} {h0 : Hp} {o : Hp} {F : Nat} (C : Cx X p s m args meth c RX5 cX5_init 3 none "<init>") {h : Hp} {x0 : Nat} {x1 : Nat} {x2 : Nat} {t0 : Nat} {t1 : Nat} {H : Heap} {locs : List Loc} (k_x0 : hK h x0 = 5) (k_x1 : hK h x1 = 1) (k_x2 : hK h x2 = 10) (k_t0 : hK h t0 = 17) (k_t1 : hK h t1 = 5) (hkl : Kl h0 h) (hW : Wx X h H) (hZ : va_S (aA (eB X)) s.heap H locs) (ls : Array Slot) (hl : lv_has ls 3 [(0, .ref x0), (1, .ref x1), (2, .ref x2)]) (hE : sX5_init_10 F h x0 x1 x2 t0 t1 = some o) : W p l e (rmA 2 43 h0 o) s m args below meth c H locs (hS h - hS h0) (hL h - hL h0) (MQ below (QVA X h0 o) args s (hS o - hS h0) (hL o - hL h0) (aA (eB X))) (F0 m 10 ls [.ref t0, .ref t1]) := by
  obtain ⟨h_1, eh_1, hE⟩ := nm_e2 hE
  refine pf_X5_9 C hW hZ rfl k_t1 k_t0 eh_1 dX5_init_10 (fun _ _ hW km hZ => ?_)
  replace hkl := hkl.tr km.l
  refine x_wc km ?_
  replace k_x0 := km.at k_x0 (by decide)
  replace k_x1 := km.at k_x1 (by decide)
  replace k_x2 := km.at k_x2 (by decide)
  refine lv_aload_n C.1 C.2.1 dX5_init_13 rfl (lv_at hl 0 rfl) ?_
  obtain ⟨a_2, ea_2, hE⟩ := nm_e2 hE
  obtain ⟨h_3, eh_3, hE⟩ := nm_e2 hE
  refine y_new C hW hZ hkl (moX5_init_17 hE) ⟨rfl, rfl⟩ i_X3 tyX3 tyX3_ok (by decide) rfl rfl dv_X3 m_265 m_266 m_8 eh_3 dX5_init_14 (fun _ hW km k_a_2 hZ => ?_)
  replace hkl := hkl.tr km
  refine x_nmA ea_2 ?_
  rw [← ea_2] at k_a_2
  replace k_x0 := km.at k_x0 (by decide)
  replace k_x1 := km.at k_x1 (by decide)
  replace k_x2 := km.at k_x2 (by decide)
  exact bX5_init_17 C k_x0 k_x1 k_x2 k_a_2 k_x0 hkl hW hZ _ (lv_sub hl [0, 1, 2] rfl) hE
set_option maxRecDepth 20000 in
theorem ct_X5_init (l : Launch) (X : Ec) (F : Nat) {h : Hp} {x0 : Nat} {x1 : Nat} {x2 : Nat} {o : Hp} (k_x0 : hK h x0 = 5) (k_x1 : hK h x1 = 1) (k_x2 : hK h x2 = 10) (hE : sX5_init F h x0 x1 x2 = some o) : MetVA l yX5_init cX5_init 3 none 2 43 X [.ref x0, .ref x1, .ref x2] h o := by
  refine x_metA (oh := o) (by decide) (Nat.le_of_ble_eq_true rfl) ?_
  intro p e s m below meth c ls C hl hW hZ
  have hl : lv_has ls 3 [(0, .ref x0), (1, .ref x1), (2, .ref x2)] := hl
  have hkl : Kl h h := Kl.rf h
  refine lv_aload_n C.1 C.2.1 dX5_init_0 rfl (lv_at hl 0 rfl) ?_
  refine W.objInit C.1 C.2.1 C.2.2.2.1 (C.2.2.2.2.1 _ m_264) (C.2.2.2.2.1 _ m_32) (C.2.2.2.2.1 _ m_33) rfl (by rw [C.2.2.1]; exact hl.1) rfl dX5_init_1 (Nat.le_of_ble_eq_true rfl) (Nat.le_of_ble_eq_true rfl) ?_
  refine W.eq (g2 := F0 m 4 ls []) rfl ?_
  refine lv_aload_n C.1 C.2.1 dX5_init_4 rfl (lv_at hl 0 rfl) ?_
  refine lv_sipush (v := (4096 : Int32)) C.1 C.2.1 dX5_init_5 (by decide) ?_
  obtain ⟨a_1, ea_1, hE⟩ := nm_e2 hE
  obtain ⟨h_2, eh_2, hE⟩ := nm_e2 hE
  refine y_newa (k := 17) (ty := .int) (t0 := 1) C hW hZ hkl (moX5_init_10 hE) ⟨rfl, rfl⟩ (by decide) (by decide) rfl rfl (by intro C hC; cases hC) hdef_17 m_54 (by decide) (by decide) eh_2 dX5_init_8 (fun _ hW km k_a_1 hZ => ?_)
  replace hkl := hkl.tr km
  refine x_nmA ea_1 ?_
  rw [← ea_1] at k_a_1
  replace k_x0 := km.at k_x0 (by decide)
  replace k_x1 := km.at k_x1 (by decide)
  replace k_x2 := km.at k_x2 (by decide)
  exact bX5_init_10 C k_x0 k_x1 k_x2 k_a_1 k_x0 hkl hW hZ _ (lv_sub hl [0, 1, 2] rfl) hE
set_option maxRecDepth 100000 in
theorem m_1 : Cond.initialized RX11 ∈ W0 := w0_in (List.mem_append_right _ (List.mem_of_getElem? (i := 1) rfl)) rfl
set_option maxRecDepth 100000 in
theorem m_92 : Cond.fieldLink RX5 129 (TX1 4).1 (TX1 4).2.1 (TX1 4).2.2.1 ∈ W0 := w0_in (List.mem_append_right _ (List.mem_of_getElem? (i := 92) rfl)) rfl
set_option maxRecDepth 100000 in
theorem m_280 : Cond.fieldLink RX5 42 (TX3 0).1 (TX3 0).2.1 (TX3 0).2.2.1 ∈ W0 := w0_in (List.mem_append_right _ (List.mem_of_getElem? (i := 280) rfl)) rfl
set_option maxRecDepth 100000 in
theorem m_285 : Cond.fieldLink RX5 33 (TX3 1).1 (TX3 1).2.1 (TX3 1).2.2.1 ∈ W0 := w0_in (List.mem_append_right _ (List.mem_of_getElem? (i := 285) rfl)) rfl
set_option maxRecDepth 100000 in
theorem n_1020 : Cond.methodLinkNest RX5 85 yX11_lowest "GameRules" ∈ tables_1 := List.mem_of_getElem? (i := 1020) rfl
set_option maxRecDepth 100000 in
theorem m_1021 : Cond.static yX11_lowest ∈ W0 := w0_in (List.mem_append_right _ (List.mem_of_getElem? (i := 1021) rfl)) rfl
set_option maxRecDepth 100000 in
theorem m_1022 : Cond.code yX11_lowest cX11_lowest 2 (some .int) ∈ W0 := w0_in (List.mem_append_right _ (List.mem_of_getElem? (i := 1022) rfl)) rfl
set_option maxRecDepth 100000 in
theorem m_1026 : Cond.methodLink RX5 104 yX1_has ∈ W0 := w0_in (List.mem_append_right _ (List.mem_of_getElem? (i := 1026) rfl)) rfl
set_option maxRecDepth 100000 in
theorem m_1030 : Cond.methodLink RX5 209 yX3_inHand ∈ W0 := w0_in (List.mem_append_right _ (List.mem_of_getElem? (i := 1030) rfl)) rfl
section
variable {p : Program} {l : Launch} {e : Env} {R : Room} {s : State} {m : MethodId} {args : Array Value} {below : List Frame} {meth : Method} {c : Code} {H : Heap} {locs : List Loc} {cells slots : Nat} {Q : State → Prop}
variable {cc : ByteArray} {pc : Nat} {ls : Array Slot} {rest : List Value} {X : Ec} {h h1 : Hp} {nL : Nat} {rt : Option FieldType} {mn : String}
theorem gf_X5_22 {a r : Nat} (C : Cx X p s m args meth c RX5 cc nL rt mn) (hW : Wx X h H) (ha : hK h a = 5) (hr : hR h a 0 = some r) (hdg : decode cc pc = .ok (.getfield 22, 3)) (kk : hK h r = 1 → W p l e R s m args below meth c H locs cells slots Q (F0 m (pc + 3) ls (.ref r :: rest))) : W p l e R s m args below meth c H locs cells slots Q (F0 m pc ls (.ref a :: rest)) :=
  y_getr C hW ha i_X5 (by decide) rfl (by decide) m_344 rfl rfl hr hdg kk
theorem gf_X5_129 {a : Nat} (C : Cx X p s m args meth c RX5 cc nL rt mn) (hW : Wx X h H) (ha : hK h a = 1) (hdg : decode cc pc = .ok (.getfield 129, 3)) (kk : W p l e R s m args below meth c H locs cells slots Q (F0 m (pc + 3) ls (.int (hI h a 4) :: rest))) : W p l e R s m args below meth c H locs cells slots Q (F0 m pc ls (.ref a :: rest)) :=
  y_geti C hW ha i_X1 (by decide) rfl (by decide) m_92 rfl hdg kk
theorem gf_X5_42 {a r : Nat} (C : Cx X p s m args meth c RX5 cc nL rt mn) (hW : Wx X h H) (ha : hK h a = 3) (hr : hR h a 0 = some r) (hdg : decode cc pc = .ok (.getfield 42, 3)) (kk : hK h r = 16 → W p l e R s m args below meth c H locs cells slots Q (F0 m (pc + 3) ls (.ref r :: rest))) : W p l e R s m args below meth c H locs cells slots Q (F0 m pc ls (.ref a :: rest)) :=
  y_getr C hW ha i_X3 (by decide) rfl (by decide) m_280 rfl rfl hr hdg kk
theorem gf_X5_33 {a r : Nat} (C : Cx X p s m args meth c RX5 cc nL rt mn) (hW : Wx X h H) (ha : hK h a = 3) (hr : hR h a 1 = some r) (hdg : decode cc pc = .ok (.getfield 33, 3)) (kk : hK h r = 18 → W p l e R s m args below meth c H locs cells slots Q (F0 m (pc + 3) ls (.ref r :: rest))) : W p l e R s m args below meth c H locs cells slots Q (F0 m pc ls (.ref a :: rest)) :=
  y_getr C hW ha i_X3 (by decide) rfl (by decide) m_285 rfl rfl hr hdg kk
end
theorem cw_X5_209 : cwd RX5 209 yX3_inHand cX3_inHand 3 (some .int) false 2 := ⟨m_998, m_1030, m_8, ⟨m_996, m_997⟩, by decide, by decide, by decide +kernel⟩
theorem cw_X5_104 : cwd RX5 104 yX1_has cX1_has 2 (some .boolean) false 1 := ⟨m_1029, m_1026, m_4, ⟨m_1027, m_1028⟩, by decide, by decide, by decide +kernel⟩
theorem cn_X5_85 : cwn RX5 85 "GameRules" yX11_lowest cX11_lowest 2 (some .int) true 1 := ⟨m_1022, n_1020, m_1, m_1021, by decide, by decide, by decide +kernel⟩
theorem dX5_hasRightMen_0 : decode cX5_hasRightMen 0 = .ok (.aload_n 0, 1) := by decide +kernel
theorem dX5_hasRightMen_1 : decode cX5_hasRightMen 1 = .ok (.getfield 22, 3) := by decide +kernel
theorem dX5_hasRightMen_4 : decode cX5_hasRightMen 4 = .ok (.getfield 129, 3) := by decide +kernel
theorem dX5_hasRightMen_7 : decode cX5_hasRightMen 7 = .ok (.iconst (-1), 1) := by decide +kernel
theorem dX5_hasRightMen_8 : decode cX5_hasRightMen 8 = .ok (.if_icmp .ne 5, 3) := by decide +kernel
theorem dX5_hasRightMen_11 : decode cX5_hasRightMen 11 = .ok (.iconst 1, 1) := by decide +kernel
theorem dX5_hasRightMen_12 : decode cX5_hasRightMen 12 = .ok (.ireturn, 1) := by decide +kernel
theorem dX5_hasRightMen_13 : decode cX5_hasRightMen 13 = .ok (.iconst 0, 1) := by decide +kernel
theorem dX5_hasRightMen_14 : decode cX5_hasRightMen 14 = .ok (.istore_n 2, 1) := by decide +kernel
theorem dX5_hasRightMen_15 : decode cX5_hasRightMen 15 = .ok (.iload_n 2, 1) := by decide +kernel
theorem dX5_hasRightMen_16 : decode cX5_hasRightMen 16 = .ok (.iconst 2, 1) := by decide +kernel
theorem dX5_hasRightMen_17 : decode cX5_hasRightMen 17 = .ok (.if_icmp .ge 123, 3) := by decide +kernel
theorem dX5_hasRightMen_20 : decode cX5_hasRightMen 20 = .ok (.iconst 0, 1) := by decide +kernel
theorem dX5_hasRightMen_21 : decode cX5_hasRightMen 21 = .ok (.istore_n 3, 1) := by decide +kernel
theorem dX5_hasRightMen_22 : decode cX5_hasRightMen 22 = .ok (.aload_n 1, 1) := by decide +kernel
theorem dX5_hasRightMen_23 : decode cX5_hasRightMen 23 = .ok (.getfield 33, 3) := by decide +kernel
theorem dX5_hasRightMen_26 : decode cX5_hasRightMen 26 = .ok (.iload_n 2, 1) := by decide +kernel
theorem dX5_hasRightMen_27 : decode cX5_hasRightMen 27 = .ok (.laload, 1) := by decide +kernel
theorem dX5_hasRightMen_28 : decode cX5_hasRightMen 28 = .ok (.lstore 4, 2) := by decide +kernel
theorem dX5_hasRightMen_30 : decode cX5_hasRightMen 30 = .ok (.iconst 0, 1) := by decide +kernel
theorem dX5_hasRightMen_31 : decode cX5_hasRightMen 31 = .ok (.istore 6, 2) := by decide +kernel
theorem dX5_hasRightMen_33 : decode cX5_hasRightMen 33 = .ok (.iload 6, 2) := by decide +kernel
theorem dX5_hasRightMen_35 : decode cX5_hasRightMen 35 = .ok (.bipush 64, 2) := by decide +kernel
theorem dX5_hasRightMen_37 : decode cX5_hasRightMen 37 = .ok (.if_icmp .ge 59, 3) := by decide +kernel
theorem dX5_hasRightMen_40 : decode cX5_hasRightMen 40 = .ok (.lload 4, 2) := by decide +kernel
theorem dX5_hasRightMen_42 : decode cX5_hasRightMen 42 = .ok (.lconst 0, 1) := by decide +kernel
theorem dX5_hasRightMen_43 : decode cX5_hasRightMen 43 = .ok (.lcmp, 1) := by decide +kernel
theorem dX5_hasRightMen_44 : decode cX5_hasRightMen 44 = .ok (.ifCond .eq 52, 3) := by decide +kernel
theorem dX5_hasRightMen_47 : decode cX5_hasRightMen 47 = .ok (.lload 4, 2) := by decide +kernel
theorem dX5_hasRightMen_49 : decode cX5_hasRightMen 49 = .ok (.invokestatic 85, 3) := by decide +kernel
theorem dX5_hasRightMen_52 : decode cX5_hasRightMen 52 = .ok (.istore 7, 2) := by decide +kernel
theorem dX5_hasRightMen_54 : decode cX5_hasRightMen 54 = .ok (.lload 4, 2) := by decide +kernel
theorem dX5_hasRightMen_56 : decode cX5_hasRightMen 56 = .ok (.lload 4, 2) := by decide +kernel
theorem dX5_hasRightMen_58 : decode cX5_hasRightMen 58 = .ok (.lconst 1, 1) := by decide +kernel
theorem dX5_hasRightMen_59 : decode cX5_hasRightMen 59 = .ok (.lsub, 1) := by decide +kernel
theorem dX5_hasRightMen_60 : decode cX5_hasRightMen 60 = .ok (.land, 1) := by decide +kernel
theorem dX5_hasRightMen_61 : decode cX5_hasRightMen 61 = .ok (.lstore 4, 2) := by decide +kernel
theorem dX5_hasRightMen_63 : decode cX5_hasRightMen 63 = .ok (.iload_n 3, 1) := by decide +kernel
theorem dX5_hasRightMen_64 : decode cX5_hasRightMen 64 = .ok (.aload_n 1, 1) := by decide +kernel
theorem dX5_hasRightMen_65 : decode cX5_hasRightMen 65 = .ok (.getfield 42, 3) := by decide +kernel
theorem dX5_hasRightMen_68 : decode cX5_hasRightMen 68 = .ok (.iload 7, 2) := by decide +kernel
theorem dX5_hasRightMen_70 : decode cX5_hasRightMen 70 = .ok (.baload, 1) := by decide +kernel
theorem dX5_hasRightMen_71 : decode cX5_hasRightMen 71 = .ok (.iconst 1, 1) := by decide +kernel
theorem dX5_hasRightMen_72 : decode cX5_hasRightMen 72 = .ok (.ishr, 1) := by decide +kernel
theorem dX5_hasRightMen_73 : decode cX5_hasRightMen 73 = .ok (.aload_n 0, 1) := by decide +kernel
theorem dX5_hasRightMen_74 : decode cX5_hasRightMen 74 = .ok (.getfield 22, 3) := by decide +kernel
theorem dX5_hasRightMen_77 : decode cX5_hasRightMen 77 = .ok (.getfield 129, 3) := by decide +kernel
theorem dX5_hasRightMen_80 : decode cX5_hasRightMen 80 = .ok (.if_icmp .ne 7, 3) := by decide +kernel
theorem dX5_hasRightMen_83 : decode cX5_hasRightMen 83 = .ok (.iconst 1, 1) := by decide +kernel
theorem dX5_hasRightMen_84 : decode cX5_hasRightMen 84 = .ok (.goto 4, 3) := by decide +kernel
theorem dX5_hasRightMen_87 : decode cX5_hasRightMen 87 = .ok (.iconst 0, 1) := by decide +kernel
theorem dX5_hasRightMen_88 : decode cX5_hasRightMen 88 = .ok (.iadd, 1) := by decide +kernel
theorem dX5_hasRightMen_89 : decode cX5_hasRightMen 89 = .ok (.istore_n 3, 1) := by decide +kernel
theorem dX5_hasRightMen_90 : decode cX5_hasRightMen 90 = .ok (.iinc 6 1, 3) := by decide +kernel
theorem dX5_hasRightMen_93 : decode cX5_hasRightMen 93 = .ok (.goto (-60), 3) := by decide +kernel
theorem dX5_hasRightMen_96 : decode cX5_hasRightMen 96 = .ok (.iload_n 3, 1) := by decide +kernel
theorem dX5_hasRightMen_97 : decode cX5_hasRightMen 97 = .ok (.iconst 1, 1) := by decide +kernel
theorem dX5_hasRightMen_98 : decode cX5_hasRightMen 98 = .ok (.if_icmp .gt 34, 3) := by decide +kernel
theorem dX5_hasRightMen_101 : decode cX5_hasRightMen 101 = .ok (.iload_n 3, 1) := by decide +kernel
theorem dX5_hasRightMen_102 : decode cX5_hasRightMen 102 = .ok (.ifCond .ne 15, 3) := by decide +kernel
theorem dX5_hasRightMen_105 : decode cX5_hasRightMen 105 = .ok (.aload_n 0, 1) := by decide +kernel
theorem dX5_hasRightMen_106 : decode cX5_hasRightMen 106 = .ok (.getfield 22, 3) := by decide +kernel
theorem dX5_hasRightMen_109 : decode cX5_hasRightMen 109 = .ok (.bipush 8, 2) := by decide +kernel
theorem dX5_hasRightMen_111 : decode cX5_hasRightMen 111 = .ok (.invokevirtual 104, 3) := by decide +kernel
theorem dX5_hasRightMen_114 : decode cX5_hasRightMen 114 = .ok (.ifCond .ne 18, 3) := by decide +kernel
theorem dX5_hasRightMen_117 : decode cX5_hasRightMen 117 = .ok (.aload_n 1, 1) := by decide +kernel
theorem dX5_hasRightMen_118 : decode cX5_hasRightMen 118 = .ok (.iload_n 2, 1) := by decide +kernel
theorem dX5_hasRightMen_119 : decode cX5_hasRightMen 119 = .ok (.aload_n 0, 1) := by decide +kernel
theorem dX5_hasRightMen_120 : decode cX5_hasRightMen 120 = .ok (.getfield 22, 3) := by decide +kernel
theorem dX5_hasRightMen_123 : decode cX5_hasRightMen 123 = .ok (.getfield 129, 3) := by decide +kernel
theorem dX5_hasRightMen_126 : decode cX5_hasRightMen 126 = .ok (.invokevirtual 209, 3) := by decide +kernel
theorem dX5_hasRightMen_129 : decode cX5_hasRightMen 129 = .ok (.ifCond .le 5, 3) := by decide +kernel
theorem dX5_hasRightMen_132 : decode cX5_hasRightMen 132 = .ok (.iconst 0, 1) := by decide +kernel
theorem dX5_hasRightMen_133 : decode cX5_hasRightMen 133 = .ok (.ireturn, 1) := by decide +kernel
theorem dX5_hasRightMen_134 : decode cX5_hasRightMen 134 = .ok (.iinc 2 1, 3) := by decide +kernel
theorem dX5_hasRightMen_137 : decode cX5_hasRightMen 137 = .ok (.goto (-122), 3) := by decide +kernel
theorem dX5_hasRightMen_140 : decode cX5_hasRightMen 140 = .ok (.iconst 1, 1) := by decide +kernel
theorem dX5_hasRightMen_141 : decode cX5_hasRightMen 141 = .ok (.ireturn, 1) := by decide +kernel
set_option maxRecDepth 20000 in
theorem moX5_hasRightMen_132 {o : Int32 × Hp} {F : Nat} {h : Hp} (hE : sX5_hasRightMen_132 F h  = some o) : Le h o.2 := by
  exact le_some2 hE
set_option maxRecDepth 20000 in
theorem moX5_hasRightMen_117 {o : Int32 × Hp} {k_15 : Hp → Nat → Nat → Int32 → Option (Int32 × Hp)} {F : Nat} (mk_15 : ∀ (h : Hp) (x0 : Nat) (x1 : Nat) (x2 : Int32), k_15 h x0 x1 x2 = some o → Le h o.2) {h : Hp} {x0 : Nat} {x1 : Nat} {x2 : Int32} (hE : sX5_hasRightMen_117 F k_15 h x0 x1 x2 = some o) : Le h o.2 := by
  obtain ⟨r_1, er_1, hE⟩ := cl_e hE
  obtain ⟨o_2, eo_2, hE⟩ := cl_e hE
  refine (moX3_inHand eo_2).tr ?_
  rcases br_e hE with ⟨_, hE⟩ | ⟨_, hE⟩
  · obtain ⟨v_4, ev_4, hE⟩ := nm_e2 hE
    exact mk_15 _ _ _ _ hE
  · exact moX5_hasRightMen_132 hE
set_option maxRecDepth 20000 in
theorem moX5_hasRightMen_96 {o : Int32 × Hp} {k_15 : Hp → Nat → Nat → Int32 → Option (Int32 × Hp)} {F : Nat} (mk_15 : ∀ (h : Hp) (x0 : Nat) (x1 : Nat) (x2 : Int32), k_15 h x0 x1 x2 = some o → Le h o.2) {h : Hp} {x0 : Nat} {x1 : Nat} {x2 : Int32} {x3 : Int32} (hE : sX5_hasRightMen_96 F k_15 h x0 x1 x2 x3 = some o) : Le h o.2 := by
  rcases br_e hE with ⟨_, hE⟩ | ⟨_, hE⟩
  · exact moX5_hasRightMen_132 hE
  · rcases br_e hE with ⟨_, hE⟩ | ⟨_, hE⟩
    · obtain ⟨r_3, er_3, hE⟩ := cl_e hE
      obtain ⟨o_4, eo_4, hE⟩ := cl_e hE
      refine (moX1_has eo_4).tr ?_
      rcases br_e hE with ⟨_, hE⟩ | ⟨_, hE⟩
      · exact moX5_hasRightMen_117 mk_15 hE
      · exact moX5_hasRightMen_132 hE
    · exact moX5_hasRightMen_117 mk_15 hE
set_option maxRecDepth 20000 in
theorem moX5_hasRightMen_88 {o : Int32 × Hp} {k_15 : Hp → Nat → Nat → Int32 → Option (Int32 × Hp)} {k_33 : Hp → Nat → Nat → Int32 → Int32 → Int64 → Int32 → Option (Int32 × Hp)} {F : Nat} (mk_15 : ∀ (h : Hp) (x0 : Nat) (x1 : Nat) (x2 : Int32), k_15 h x0 x1 x2 = some o → Le h o.2) (mk_33 : ∀ (h : Hp) (x0 : Nat) (x1 : Nat) (x2 : Int32) (x3 : Int32) (x4 : Int64) (x6 : Int32), k_33 h x0 x1 x2 x3 x4 x6 = some o → Le h o.2) {h : Hp} {x0 : Nat} {x1 : Nat} {x2 : Int32} {x4 : Int64} {x6 : Int32} {t0 : Int32} {t1 : Int32} (hE : sX5_hasRightMen_88 F k_15 k_33 h x0 x1 x2 x4 x6 t0 t1 = some o) : Le h o.2 := by
  obtain ⟨v_1, ev_1, hE⟩ := nm_e2 hE
  obtain ⟨v_2, ev_2, hE⟩ := nm_e2 hE
  exact mk_33 _ _ _ _ _ _ _ hE
set_option maxRecDepth 20000 in
theorem moX5_hasRightMen_33 {o : Int32 × Hp} {k_15 : Hp → Nat → Nat → Int32 → Option (Int32 × Hp)} {F : Nat} (mk_15 : ∀ (h : Hp) (x0 : Nat) (x1 : Nat) (x2 : Int32), k_15 h x0 x1 x2 = some o → Le h o.2) : ∀ (f : Nat) {h : Hp} {x0 : Nat} {x1 : Nat} {x2 : Int32} {x3 : Int32} {x4 : Int64} {x6 : Int32}, sX5_hasRightMen_33 F k_15 f h x0 x1 x2 x3 x4 x6 = some o → Le h o.2 := by
  intro f
  induction f with
  | zero =>
    intro h x0 x1 x2 x3 x4 x6 hE
    rw [sX5_hasRightMen_33] at hE
    cases hE
  | succ f ih =>
    intro h x0 x1 x2 x3 x4 x6 hE
    rw [sX5_hasRightMen_33] at hE
    have mk_33 : ∀ (h : Hp) (x0 : Nat) (x1 : Nat) (x2 : Int32) (x3 : Int32) (x4 : Int64) (x6 : Int32), sX5_hasRightMen_33 F k_15 f h x0 x1 x2 x3 x4 x6 = some o → Le h o.2 := fun h x0 x1 x2 x3 x4 x6 hE => ih hE
    rcases br_e hE with ⟨_, hE⟩ | ⟨_, hE⟩
    · exact moX5_hasRightMen_96 mk_15 hE
    · rcases br_e hE with ⟨_, hE⟩ | ⟨_, hE⟩
      · exact moX5_hasRightMen_96 mk_15 hE
      · obtain ⟨o_3, eo_3, hE⟩ := cl_e hE
        refine (moX11_lowest eo_3).tr ?_
        obtain ⟨v_4, ev_4, hE⟩ := nm_e2 hE
        obtain ⟨r_5, er_5, hE⟩ := cl_e hE
        obtain ⟨g_6, hE⟩ := gd_e hE
        obtain ⟨r_7, er_7, hE⟩ := cl_e hE
        rcases br_e hE with ⟨_, hE⟩ | ⟨_, hE⟩
        · exact moX5_hasRightMen_88 mk_15 mk_33 hE
        · exact moX5_hasRightMen_88 mk_15 mk_33 hE
set_option maxRecDepth 20000 in
theorem moX5_hasRightMen_15 {o : Int32 × Hp} {F : Nat} : ∀ (f : Nat) {h : Hp} {x0 : Nat} {x1 : Nat} {x2 : Int32}, sX5_hasRightMen_15 F f h x0 x1 x2 = some o → Le h o.2 := by
  intro f
  induction f with
  | zero =>
    intro h x0 x1 x2 hE
    rw [sX5_hasRightMen_15] at hE
    cases hE
  | succ f ih =>
    intro h x0 x1 x2 hE
    rw [sX5_hasRightMen_15] at hE
    have mk_15 : ∀ (h : Hp) (x0 : Nat) (x1 : Nat) (x2 : Int32), sX5_hasRightMen_15 F f h x0 x1 x2 = some o → Le h o.2 := fun h x0 x1 x2 hE => ih hE
    rcases br_e hE with ⟨_, hE⟩ | ⟨_, hE⟩
    · exact le_some2 hE
    · obtain ⟨r_2, er_2, hE⟩ := cl_e hE
      obtain ⟨g_3, hE⟩ := gd_e hE
      obtain ⟨v_4, ev_4, hE⟩ := nm_e2 hE
      exact moX5_hasRightMen_33 mk_15 _ hE
set_option maxRecDepth 20000 in
theorem moX5_hasRightMen {o : Int32 × Hp} {F : Nat} {h : Hp} {x0 : Nat} {x1 : Nat} (hE : sX5_hasRightMen F h x0 x1 = some o) : Le h o.2 := by
  obtain ⟨r_1, er_1, hE⟩ := cl_e hE
  rcases br_e hE with ⟨_, hE⟩ | ⟨_, hE⟩
  · exact le_some2 hE
  · exact moX5_hasRightMen_15 _ hE
set_option maxRecDepth 20000 in
theorem bX5_hasRightMen_132 {p : Program} {l : Launch} {e : Env} {s : State} {m : MethodId} {args : Array Value} {below : List Frame} {meth : Method} {c : Code} {X : Ec} {h0 : Hp} {o : Int32 × Hp} {F : Nat} (C : Cx X p s m args meth c RX5 cX5_hasRightMen 8 (some .boolean) "hasRightMen") {h : Hp} {H : Heap} {locs : List Loc} (hkm : Km h0 h) (hW : Wx X h H) (hZ : va_S (aA (eB X)) s.heap H locs) (ls : Array Slot) (hl : lv_has ls 8 []) (hE : sX5_hasRightMen_132 F h  = some o) : W p l e (rm 1 22) s m args below meth c H locs 0 0 (MQ below (QI X h0 o.1 o.2) args s 0 0 (aA (eB X))) (F0 m 132 ls []) := by
  refine lv_iconst (v := (0 : Int32)) C.1 C.2.1 dX5_hasRightMen_132 (by decide) ?_
  exact x_iret C rfl (by decide) hW hZ hkm hE dX5_hasRightMen_133
set_option maxRecDepth 20000 in
theorem bX5_hasRightMen_117 {p : Program} {l : Launch} {e : Env} {s : State} {m : MethodId} {args : Array Value} {below : List Frame} {meth : Method} {c : Code} {X : Ec} {h0 : Hp} {o : Int32 × Hp} {k_15 : Hp → Nat → Nat → Int32 → Option (Int32 × Hp)} {F : Nat} (C : Cx X p s m args meth c RX5 cX5_hasRightMen 8 (some .boolean) "hasRightMen") (hk_15 : ∀ (h : Hp) (x0 : Nat) (x1 : Nat) (x2 : Int32) (H : Heap) (locs : List Loc), hK h x0 = 5 → hK h x1 = 3 → Km h0 h → Wx X h H → va_S (aA (eB X)) s.heap H locs → ∀ (ls : Array Slot), lv_has ls 8 [(0, .ref x0), (1, .ref x1), (2, .int x2)] → k_15 h x0 x1 x2 = some o → W p l e (rm 1 22) s m args below meth c H locs 0 0 (MQ below (QI X h0 o.1 o.2) args s 0 0 (aA (eB X))) (F0 m 15 ls [])) {h : Hp} {x0 : Nat} {x1 : Nat} {x2 : Int32} {H : Heap} {locs : List Loc} (k_x0 : hK h x0 = 5) (k_x1 : hK h x1 = 3) (hkm : Km h0 h) (hW : Wx X h H) (hZ : va_S (aA (eB X)) s.heap H locs) (ls : Array Slot) (hl : lv_has ls 8 [(0, .ref x0), (1, .ref x1), (2, .int x2)]) (hE : sX5_hasRightMen_117 F k_15 h x0 x1 x2 = some o) : W p l e (rm 1 22) s m args below meth c H locs 0 0 (MQ below (QI X h0 o.1 o.2) args s 0 0 (aA (eB X))) (F0 m 117 ls []) := by
  refine lv_aload_n C.1 C.2.1 dX5_hasRightMen_117 rfl (lv_at hl 1 rfl) ?_
  refine lv_iload_n C.1 C.2.1 dX5_hasRightMen_118 rfl (lv_at hl 2 rfl) ?_
  refine lv_aload_n C.1 C.2.1 dX5_hasRightMen_119 rfl (lv_at hl 0 rfl) ?_
  obtain ⟨r_1, er_1, hE⟩ := cl_e hE
  refine gf_X5_22 C hW k_x0 er_1 dX5_hasRightMen_120 (fun k_r_1 => ?_)
  refine gf_X5_129 C hW k_r_1 dX5_hasRightMen_123 ?_
  obtain ⟨o_2, eo_2, hE⟩ := cl_e hE
  refine x_kI (o := o_2) (z_runV (As := [.int x2, .int (hI h r_1 4)]) (rest := []) C (ct_X3_inHand l X k_x1 eo_2) cw_X5_209 hW hZ k_x1 (by decide) rfl rfl rfl hl.1 (Nat.le_of_ble_eq_true rfl) rfl dX5_hasRightMen_126 ⟨Nat.le_of_ble_eq_true rfl, Nat.le_of_ble_eq_true rfl⟩ ⟨Nat.le_refl _, Nat.le_refl _⟩) hZ (fun _ _ hW km hZ => ?_)
  replace hkm := hkm.tr km
  replace k_x0 := km.at k_x0 (by decide)
  replace k_x1 := km.at k_x1 (by decide)
  refine lv_if_le (tgt := 134) C.1 C.2.1 dX5_hasRightMen_129 (by decide) (fun c_3 => ?_) (fun c_3 => ?_)
  · have hE := br_p hE c_3
    obtain ⟨v_4, ev_4, hE⟩ := nm_e2 hE
    refine lv_iinc (v := v_4) (lv' := [(2, .int v_4), (0, .ref x0), (1, .ref x1)]) C.1 C.2.1 dX5_hasRightMen_134 hl (k := 2) rfl (by rw [ev_4]; rfl) (by decide) rfl (fun ls hl => ?_)
    refine lv_goto (tgt := 15) C.1 C.2.1 dX5_hasRightMen_137 (by decide) ?_
    exact hk_15 _ _ _ _ _ _ k_x0 k_x1 hkm hW hZ _ (lv_sub hl [1, 2, 0] rfl) hE
  · have hE := br_n hE c_3
    exact bX5_hasRightMen_132 C hkm hW hZ _ (lv_sub hl [] rfl) hE
set_option maxRecDepth 20000 in
theorem bX5_hasRightMen_96 {p : Program} {l : Launch} {e : Env} {s : State} {m : MethodId} {args : Array Value} {below : List Frame} {meth : Method} {c : Code} {X : Ec} {h0 : Hp} {o : Int32 × Hp} {k_15 : Hp → Nat → Nat → Int32 → Option (Int32 × Hp)} {F : Nat} (C : Cx X p s m args meth c RX5 cX5_hasRightMen 8 (some .boolean) "hasRightMen") (hk_15 : ∀ (h : Hp) (x0 : Nat) (x1 : Nat) (x2 : Int32) (H : Heap) (locs : List Loc), hK h x0 = 5 → hK h x1 = 3 → Km h0 h → Wx X h H → va_S (aA (eB X)) s.heap H locs → ∀ (ls : Array Slot), lv_has ls 8 [(0, .ref x0), (1, .ref x1), (2, .int x2)] → k_15 h x0 x1 x2 = some o → W p l e (rm 1 22) s m args below meth c H locs 0 0 (MQ below (QI X h0 o.1 o.2) args s 0 0 (aA (eB X))) (F0 m 15 ls [])) {h : Hp} {x0 : Nat} {x1 : Nat} {x2 : Int32} {x3 : Int32} {H : Heap} {locs : List Loc} (k_x0 : hK h x0 = 5) (k_x1 : hK h x1 = 3) (hkm : Km h0 h) (hW : Wx X h H) (hZ : va_S (aA (eB X)) s.heap H locs) (ls : Array Slot) (hl : lv_has ls 8 [(0, .ref x0), (1, .ref x1), (2, .int x2), (3, .int x3)]) (hE : sX5_hasRightMen_96 F k_15 h x0 x1 x2 x3 = some o) : W p l e (rm 1 22) s m args below meth c H locs 0 0 (MQ below (QI X h0 o.1 o.2) args s 0 0 (aA (eB X))) (F0 m 96 ls []) := by
  refine lv_iload_n C.1 C.2.1 dX5_hasRightMen_96 rfl (lv_at hl 3 rfl) ?_
  refine lv_iconst (v := (1 : Int32)) C.1 C.2.1 dX5_hasRightMen_97 (by decide) ?_
  refine lv_icmp_gt (tgt := 132) C.1 C.2.1 dX5_hasRightMen_98 (by decide) (fun c_1 => ?_) (fun c_1 => ?_)
  · have hE := br_p hE c_1
    exact bX5_hasRightMen_132 C hkm hW hZ _ (lv_sub hl [] rfl) hE
  · have hE := br_n hE c_1
    refine lv_iload_n C.1 C.2.1 dX5_hasRightMen_101 rfl (lv_at hl 3 rfl) ?_
    refine lv_if_ne (tgt := 117) C.1 C.2.1 dX5_hasRightMen_102 (by decide) (fun c_2 => ?_) (fun c_2 => ?_)
    · have hE := br_n hE c_2
      exact bX5_hasRightMen_117 C hk_15 k_x0 k_x1 hkm hW hZ _ (lv_sub hl [0, 1, 2] rfl) hE
    · have hE := br_p hE c_2
      refine lv_aload_n C.1 C.2.1 dX5_hasRightMen_105 rfl (lv_at hl 0 rfl) ?_
      obtain ⟨r_3, er_3, hE⟩ := cl_e hE
      refine gf_X5_22 C hW k_x0 er_3 dX5_hasRightMen_106 (fun k_r_3 => ?_)
      refine lv_bipush (v := (8 : Int32)) C.1 C.2.1 dX5_hasRightMen_109 (by decide) ?_
      obtain ⟨o_4, eo_4, hE⟩ := cl_e hE
      refine x_kI (o := o_4) (z_runV (As := [.int (8 : Int32)]) (rest := []) C (ct_X1_has l X k_r_3 eo_4) cw_X5_104 hW hZ k_r_3 (by decide) rfl rfl rfl hl.1 (Nat.le_of_ble_eq_true rfl) rfl dX5_hasRightMen_111 ⟨Nat.le_of_ble_eq_true rfl, Nat.le_of_ble_eq_true rfl⟩ ⟨Nat.le_refl _, Nat.le_refl _⟩) hZ (fun _ _ hW km hZ => ?_)
      replace hkm := hkm.tr km
      replace k_x0 := km.at k_x0 (by decide)
      replace k_x1 := km.at k_x1 (by decide)
      refine lv_if_ne (tgt := 132) C.1 C.2.1 dX5_hasRightMen_114 (by decide) (fun c_5 => ?_) (fun c_5 => ?_)
      · have hE := br_n hE c_5
        exact bX5_hasRightMen_132 C hkm hW hZ _ (lv_sub hl [] rfl) hE
      · have hE := br_p hE c_5
        exact bX5_hasRightMen_117 C hk_15 k_x0 k_x1 hkm hW hZ _ (lv_sub hl [0, 1, 2] rfl) hE
set_option maxRecDepth 20000 in
theorem bX5_hasRightMen_88 {p : Program} {l : Launch} {e : Env} {s : State} {m : MethodId} {args : Array Value} {below : List Frame} {meth : Method} {c : Code} {X : Ec} {h0 : Hp} {o : Int32 × Hp} {k_15 : Hp → Nat → Nat → Int32 → Option (Int32 × Hp)} {k_33 : Hp → Nat → Nat → Int32 → Int32 → Int64 → Int32 → Option (Int32 × Hp)} {F : Nat} (C : Cx X p s m args meth c RX5 cX5_hasRightMen 8 (some .boolean) "hasRightMen") (hk_15 : ∀ (h : Hp) (x0 : Nat) (x1 : Nat) (x2 : Int32) (H : Heap) (locs : List Loc), hK h x0 = 5 → hK h x1 = 3 → Km h0 h → Wx X h H → va_S (aA (eB X)) s.heap H locs → ∀ (ls : Array Slot), lv_has ls 8 [(0, .ref x0), (1, .ref x1), (2, .int x2)] → k_15 h x0 x1 x2 = some o → W p l e (rm 1 22) s m args below meth c H locs 0 0 (MQ below (QI X h0 o.1 o.2) args s 0 0 (aA (eB X))) (F0 m 15 ls [])) (hk_33 : ∀ (h : Hp) (x0 : Nat) (x1 : Nat) (x2 : Int32) (x3 : Int32) (x4 : Int64) (x6 : Int32) (H : Heap) (locs : List Loc), hK h x0 = 5 → hK h x1 = 3 → Km h0 h → Wx X h H → va_S (aA (eB X)) s.heap H locs → ∀ (ls : Array Slot), lv_has ls 8 [(0, .ref x0), (1, .ref x1), (2, .int x2), (3, .int x3), (4, .long x4), (6, .int x6)] → k_33 h x0 x1 x2 x3 x4 x6 = some o → W p l e (rm 1 22) s m args below meth c H locs 0 0 (MQ below (QI X h0 o.1 o.2) args s 0 0 (aA (eB X))) (F0 m 33 ls [])) {h : Hp} {x0 : Nat} {x1 : Nat} {x2 : Int32} {x4 : Int64} {x6 : Int32} {t0 : Int32} {t1 : Int32} {H : Heap} {locs : List Loc} (k_x0 : hK h x0 = 5) (k_x1 : hK h x1 = 3) (hkm : Km h0 h) (hW : Wx X h H) (hZ : va_S (aA (eB X)) s.heap H locs) (ls : Array Slot) (hl : lv_has ls 8 [(0, .ref x0), (1, .ref x1), (2, .int x2), (4, .long x4), (6, .int x6)]) (hE : sX5_hasRightMen_88 F k_15 k_33 h x0 x1 x2 x4 x6 t0 t1 = some o) : W p l e (rm 1 22) s m args below meth c H locs 0 0 (MQ below (QI X h0 o.1 o.2) args s 0 0 (aA (eB X))) (F0 m 88 ls [.int t0, .int t1]) := by
  refine lv_iadd C.1 C.2.1 dX5_hasRightMen_88 ?_
  obtain ⟨v_1, ev_1, hE⟩ := nm_e2 hE
  refine x_nmI ev_1 ?_
  refine lv_istore_n (lv' := [(3, .int v_1), (0, .ref x0), (1, .ref x1), (2, .int x2), (4, .long x4), (6, .int x6)]) C.1 C.2.1 dX5_hasRightMen_89 rfl hl (by decide) rfl (fun ls hl => ?_)
  obtain ⟨v_2, ev_2, hE⟩ := nm_e2 hE
  refine lv_iinc (v := v_2) (lv' := [(6, .int v_2), (3, .int v_1), (0, .ref x0), (1, .ref x1), (2, .int x2), (4, .long x4)]) C.1 C.2.1 dX5_hasRightMen_90 hl (k := 5) rfl (by rw [ev_2]; rfl) (by decide) rfl (fun ls hl => ?_)
  refine lv_goto (tgt := 33) C.1 C.2.1 dX5_hasRightMen_93 (by decide) ?_
  exact hk_33 _ _ _ _ _ _ _ _ _ k_x0 k_x1 hkm hW hZ _ (lv_sub hl [2, 3, 4, 1, 5, 0] rfl) hE
set_option maxRecDepth 20000 in
theorem bX5_hasRightMen_33 {p : Program} {l : Launch} {e : Env} {s : State} {m : MethodId} {args : Array Value} {below : List Frame} {meth : Method} {c : Code} {X : Ec} {h0 : Hp} {o : Int32 × Hp} {k_15 : Hp → Nat → Nat → Int32 → Option (Int32 × Hp)} {F : Nat} (C : Cx X p s m args meth c RX5 cX5_hasRightMen 8 (some .boolean) "hasRightMen") (hk_15 : ∀ (h : Hp) (x0 : Nat) (x1 : Nat) (x2 : Int32) (H : Heap) (locs : List Loc), hK h x0 = 5 → hK h x1 = 3 → Km h0 h → Wx X h H → va_S (aA (eB X)) s.heap H locs → ∀ (ls : Array Slot), lv_has ls 8 [(0, .ref x0), (1, .ref x1), (2, .int x2)] → k_15 h x0 x1 x2 = some o → W p l e (rm 1 22) s m args below meth c H locs 0 0 (MQ below (QI X h0 o.1 o.2) args s 0 0 (aA (eB X))) (F0 m 15 ls [])) : ∀ (f : Nat) {h : Hp} {x0 : Nat} {x1 : Nat} {x2 : Int32} {x3 : Int32} {x4 : Int64} {x6 : Int32} {H : Heap} {locs : List Loc} (k_x0 : hK h x0 = 5) (k_x1 : hK h x1 = 3), Km h0 h → Wx X h H → va_S (aA (eB X)) s.heap H locs → ∀ (ls : Array Slot), lv_has ls 8 [(0, .ref x0), (1, .ref x1), (2, .int x2), (3, .int x3), (4, .long x4), (6, .int x6)] → sX5_hasRightMen_33 F k_15 f h x0 x1 x2 x3 x4 x6 = some o → W p l e (rm 1 22) s m args below meth c H locs 0 0 (MQ below (QI X h0 o.1 o.2) args s 0 0 (aA (eB X))) (F0 m 33 ls []) := by
  intro f
  induction f with
  | zero =>
    intro h x0 x1 x2 x3 x4 x6 H locs k_x0 k_x1 hkm hW hZ ls hl hE
    rw [sX5_hasRightMen_33] at hE
    cases hE
  | succ f ih =>
    intro h x0 x1 x2 x3 x4 x6 H locs k_x0 k_x1 hkm hW hZ ls hl hE
    rw [sX5_hasRightMen_33] at hE
    have hk_33 : ∀ (h : Hp) (x0 : Nat) (x1 : Nat) (x2 : Int32) (x3 : Int32) (x4 : Int64) (x6 : Int32) (H : Heap) (locs : List Loc), hK h x0 = 5 → hK h x1 = 3 → Km h0 h → Wx X h H → va_S (aA (eB X)) s.heap H locs → ∀ (ls : Array Slot), lv_has ls 8 [(0, .ref x0), (1, .ref x1), (2, .int x2), (3, .int x3), (4, .long x4), (6, .int x6)] → sX5_hasRightMen_33 F k_15 f h x0 x1 x2 x3 x4 x6 = some o → W p l e (rm 1 22) s m args below meth c H locs 0 0 (MQ below (QI X h0 o.1 o.2) args s 0 0 (aA (eB X))) (F0 m 33 ls []) := fun h x0 x1 x2 x3 x4 x6 H locs k_x0 k_x1 a b c ls hl hE => ih k_x0 k_x1 a b c ls hl hE
    refine lv_iload C.1 C.2.1 dX5_hasRightMen_33 (lv_at hl 5 rfl) ?_
    refine lv_bipush (v := (64 : Int32)) C.1 C.2.1 dX5_hasRightMen_35 (by decide) ?_
    refine lv_icmp_ge (tgt := 96) C.1 C.2.1 dX5_hasRightMen_37 (by decide) (fun c_1 => ?_) (fun c_1 => ?_)
    · have hE := br_p hE c_1
      exact bX5_hasRightMen_96 C hk_15 k_x0 k_x1 hkm hW hZ _ (lv_sub hl [0, 1, 2, 3] rfl) hE
    · have hE := br_n hE c_1
      refine lv_lload C.1 C.2.1 dX5_hasRightMen_40 (lv_at hl 4 rfl) ?_
      refine lv_lconst (v := (0 : Int64)) C.1 C.2.1 dX5_hasRightMen_42 (by decide) ?_
      refine W.lcmp C.1 C.2.1 dX5_hasRightMen_43 ?_
      refine lv_if_eq (tgt := 96) C.1 C.2.1 dX5_hasRightMen_44 (by decide) (fun c_2 => ?_) (fun c_2 => ?_)
      · have hE := br_p hE c_2
        exact bX5_hasRightMen_96 C hk_15 k_x0 k_x1 hkm hW hZ _ (lv_sub hl [0, 1, 2, 3] rfl) hE
      · have hE := br_n hE c_2
        refine lv_lload C.1 C.2.1 dX5_hasRightMen_47 (lv_at hl 4 rfl) ?_
        obtain ⟨o_3, eo_3, hE⟩ := cl_e hE
        refine x_kI (o := o_3) (x_runSN (As := [.long x4]) (rest := []) C (ct_X11_lowest l X eo_3) cn_X5_85 hW hZ rfl hl.1 (Nat.le_of_ble_eq_true rfl) rfl dX5_hasRightMen_49 ⟨Nat.le_of_ble_eq_true rfl, Nat.le_of_ble_eq_true rfl⟩ ⟨Nat.le_refl _, Nat.le_refl _⟩) hZ (fun _ _ hW km hZ => ?_)
        replace hkm := hkm.tr km
        replace k_x0 := km.at k_x0 (by decide)
        replace k_x1 := km.at k_x1 (by decide)
        refine lv_istore (lv' := [(7, .int o_3.1), (0, .ref x0), (1, .ref x1), (2, .int x2), (3, .int x3), (4, .long x4), (6, .int x6)]) C.1 C.2.1 dX5_hasRightMen_52 hl (by decide) rfl (fun ls hl => ?_)
        refine lv_lload C.1 C.2.1 dX5_hasRightMen_54 (lv_at hl 5 rfl) ?_
        refine lv_lload C.1 C.2.1 dX5_hasRightMen_56 (lv_at hl 5 rfl) ?_
        refine lv_lconst (v := (1 : Int64)) C.1 C.2.1 dX5_hasRightMen_58 (by decide) ?_
        refine lv_lsub C.1 C.2.1 dX5_hasRightMen_59 ?_
        refine lv_land C.1 C.2.1 dX5_hasRightMen_60 ?_
        obtain ⟨v_4, ev_4, hE⟩ := nm_e2 hE
        refine x_nmJ ev_4 ?_
        refine lv_lstore (lv' := [(4, .long v_4), (7, .int o_3.1), (0, .ref x0), (1, .ref x1), (2, .int x2), (3, .int x3), (6, .int x6)]) C.1 C.2.1 dX5_hasRightMen_61 hl (by decide) rfl (fun ls hl => ?_)
        refine lv_iload_n C.1 C.2.1 dX5_hasRightMen_63 rfl (lv_at hl 5 rfl) ?_
        refine lv_aload_n C.1 C.2.1 dX5_hasRightMen_64 rfl (lv_at hl 3 rfl) ?_
        obtain ⟨r_5, er_5, hE⟩ := cl_e hE
        refine gf_X5_42 C hW k_x1 er_5 dX5_hasRightMen_65 (fun k_r_5 => ?_)
        refine lv_iload C.1 C.2.1 dX5_hasRightMen_68 (lv_at hl 1 rfl) ?_
        obtain ⟨g_6, hE⟩ := gd_e hE
        refine y_bald C hW k_r_5 g_6 dX5_hasRightMen_70 ?_
        refine lv_iconst (v := (1 : Int32)) C.1 C.2.1 dX5_hasRightMen_71 (by decide) ?_
        refine lv_ishr C.1 C.2.1 dX5_hasRightMen_72 ?_
        refine lv_aload_n C.1 C.2.1 dX5_hasRightMen_73 rfl (lv_at hl 2 rfl) ?_
        obtain ⟨r_7, er_7, hE⟩ := cl_e hE
        refine gf_X5_22 C hW k_x0 er_7 dX5_hasRightMen_74 (fun k_r_7 => ?_)
        refine gf_X5_129 C hW k_r_7 dX5_hasRightMen_77 ?_
        refine lv_icmp_ne (tgt := 87) C.1 C.2.1 dX5_hasRightMen_80 (by decide) (fun c_8 => ?_) (fun c_8 => ?_)
        · have hE := br_n hE c_8
          refine lv_iconst (v := (0 : Int32)) C.1 C.2.1 dX5_hasRightMen_87 (by decide) ?_
          exact bX5_hasRightMen_88 C hk_15 hk_33 k_x0 k_x1 hkm hW hZ _ (lv_sub hl [2, 3, 4, 0, 6] rfl) hE
        · have hE := br_p hE c_8
          refine lv_iconst (v := (1 : Int32)) C.1 C.2.1 dX5_hasRightMen_83 (by decide) ?_
          refine lv_goto (tgt := 88) C.1 C.2.1 dX5_hasRightMen_84 (by decide) ?_
          exact bX5_hasRightMen_88 C hk_15 hk_33 k_x0 k_x1 hkm hW hZ _ (lv_sub hl [2, 3, 4, 0, 6] rfl) hE
set_option maxRecDepth 20000 in
theorem bX5_hasRightMen_15 {p : Program} {l : Launch} {e : Env} {s : State} {m : MethodId} {args : Array Value} {below : List Frame} {meth : Method} {c : Code} {X : Ec} {h0 : Hp} {o : Int32 × Hp} {F : Nat} (C : Cx X p s m args meth c RX5 cX5_hasRightMen 8 (some .boolean) "hasRightMen") : ∀ (f : Nat) {h : Hp} {x0 : Nat} {x1 : Nat} {x2 : Int32} {H : Heap} {locs : List Loc} (k_x0 : hK h x0 = 5) (k_x1 : hK h x1 = 3), Km h0 h → Wx X h H → va_S (aA (eB X)) s.heap H locs → ∀ (ls : Array Slot), lv_has ls 8 [(0, .ref x0), (1, .ref x1), (2, .int x2)] → sX5_hasRightMen_15 F f h x0 x1 x2 = some o → W p l e (rm 1 22) s m args below meth c H locs 0 0 (MQ below (QI X h0 o.1 o.2) args s 0 0 (aA (eB X))) (F0 m 15 ls []) := by
  intro f
  induction f with
  | zero =>
    intro h x0 x1 x2 H locs k_x0 k_x1 hkm hW hZ ls hl hE
    rw [sX5_hasRightMen_15] at hE
    cases hE
  | succ f ih =>
    intro h x0 x1 x2 H locs k_x0 k_x1 hkm hW hZ ls hl hE
    rw [sX5_hasRightMen_15] at hE
    have hk_15 : ∀ (h : Hp) (x0 : Nat) (x1 : Nat) (x2 : Int32) (H : Heap) (locs : List Loc), hK h x0 = 5 → hK h x1 = 3 → Km h0 h → Wx X h H → va_S (aA (eB X)) s.heap H locs → ∀ (ls : Array Slot), lv_has ls 8 [(0, .ref x0), (1, .ref x1), (2, .int x2)] → sX5_hasRightMen_15 F f h x0 x1 x2 = some o → W p l e (rm 1 22) s m args below meth c H locs 0 0 (MQ below (QI X h0 o.1 o.2) args s 0 0 (aA (eB X))) (F0 m 15 ls []) := fun h x0 x1 x2 H locs k_x0 k_x1 a b c ls hl hE => ih k_x0 k_x1 a b c ls hl hE
    refine lv_iload_n C.1 C.2.1 dX5_hasRightMen_15 rfl (lv_at hl 2 rfl) ?_
    refine lv_iconst (v := (2 : Int32)) C.1 C.2.1 dX5_hasRightMen_16 (by decide) ?_
    refine lv_icmp_ge (tgt := 140) C.1 C.2.1 dX5_hasRightMen_17 (by decide) (fun c_1 => ?_) (fun c_1 => ?_)
    · have hE := br_p hE c_1
      refine lv_iconst (v := (1 : Int32)) C.1 C.2.1 dX5_hasRightMen_140 (by decide) ?_
      exact x_iret C rfl (by decide) hW hZ hkm hE dX5_hasRightMen_141
    · have hE := br_n hE c_1
      refine lv_iconst (v := (0 : Int32)) C.1 C.2.1 dX5_hasRightMen_20 (by decide) ?_
      refine lv_istore_n (lv' := [(3, .int (0 : Int32)), (0, .ref x0), (1, .ref x1), (2, .int x2)]) C.1 C.2.1 dX5_hasRightMen_21 rfl hl (by decide) rfl (fun ls hl => ?_)
      refine lv_aload_n C.1 C.2.1 dX5_hasRightMen_22 rfl (lv_at hl 2 rfl) ?_
      obtain ⟨r_2, er_2, hE⟩ := cl_e hE
      refine gf_X5_33 C hW k_x1 er_2 dX5_hasRightMen_23 (fun k_r_2 => ?_)
      refine lv_iload_n C.1 C.2.1 dX5_hasRightMen_26 rfl (lv_at hl 3 rfl) ?_
      obtain ⟨g_3, hE⟩ := gd_e hE
      refine y_lald C hW k_r_2 g_3 dX5_hasRightMen_27 ?_
      obtain ⟨v_4, ev_4, hE⟩ := nm_e2 hE
      refine x_nmJ ev_4 ?_
      refine lv_lstore (lv' := [(4, .long v_4), (3, .int (0 : Int32)), (0, .ref x0), (1, .ref x1), (2, .int x2)]) C.1 C.2.1 dX5_hasRightMen_28 hl (by decide) rfl (fun ls hl => ?_)
      refine lv_iconst (v := (0 : Int32)) C.1 C.2.1 dX5_hasRightMen_30 (by decide) ?_
      refine lv_istore (lv' := [(6, .int (0 : Int32)), (4, .long v_4), (3, .int (0 : Int32)), (0, .ref x0), (1, .ref x1), (2, .int x2)]) C.1 C.2.1 dX5_hasRightMen_31 hl (by decide) rfl (fun ls hl => ?_)
      exact bX5_hasRightMen_33 C hk_15 F k_x0 k_x1 hkm hW hZ _ (lv_sub hl [3, 4, 5, 2, 1, 0] rfl) hE
set_option maxRecDepth 20000 in
theorem ct_X5_hasRightMen (l : Launch) (X : Ec) (F : Nat) {h : Hp} {x0 : Nat} {x1 : Nat} {o : Int32 × Hp} (k_x0 : hK h x0 = 5) (k_x1 : hK h x1 = 3) (hE : sX5_hasRightMen F h x0 x1 = some o) : MetI l yX5_hasRightMen cX5_hasRightMen 8 (some .boolean) 1 22 X [.ref x0, .ref x1] h o := by
  refine x_met (by decide) (Nat.le_of_ble_eq_true rfl) ?_
  intro p e s m below meth c ls C hl hW hZ
  have hl : lv_has ls 8 [(0, .ref x0), (1, .ref x1)] := hl
  have hkm : Km h h := Km.rf h
  refine lv_aload_n C.1 C.2.1 dX5_hasRightMen_0 rfl (lv_at hl 0 rfl) ?_
  obtain ⟨r_1, er_1, hE⟩ := cl_e hE
  refine gf_X5_22 C hW k_x0 er_1 dX5_hasRightMen_1 (fun k_r_1 => ?_)
  refine gf_X5_129 C hW k_r_1 dX5_hasRightMen_4 ?_
  refine lv_iconst (v := (-1 : Int32)) C.1 C.2.1 dX5_hasRightMen_7 (by decide) ?_
  refine lv_icmp_ne (tgt := 13) C.1 C.2.1 dX5_hasRightMen_8 (by decide) (fun c_2 => ?_) (fun c_2 => ?_)
  · have hE := br_n hE c_2
    refine lv_iconst (v := (0 : Int32)) C.1 C.2.1 dX5_hasRightMen_13 (by decide) ?_
    refine lv_istore_n (lv' := [(2, .int (0 : Int32)), (0, .ref x0), (1, .ref x1)]) C.1 C.2.1 dX5_hasRightMen_14 rfl hl (by decide) rfl (fun ls hl => ?_)
    exact bX5_hasRightMen_15 C F k_x0 k_x1 hkm hW hZ _ (lv_sub hl [1, 2, 0] rfl) hE
  · have hE := br_p hE c_2
    refine lv_iconst (v := (1 : Int32)) C.1 C.2.1 dX5_hasRightMen_11 (by decide) ?_
    exact x_iret C rfl (by decide) hW hZ hkm hE dX5_hasRightMen_12
set_option maxRecDepth 100000 in
theorem m_1035 : Cond.methodLink RX5 212 yX1_becomesOthers ∈ W0 := w0_in (List.mem_append_right _ (List.mem_of_getElem? (i := 1035) rfl)) rfl
set_option maxRecDepth 100000 in
theorem m_1036 : Cond.methodLink RX5 187 yX1_isLast ∈ W0 := w0_in (List.mem_append_right _ (List.mem_of_getElem? (i := 1036) rfl)) rfl
theorem cw_X5_212 : cwd RX5 212 yX1_becomesOthers cX1_becomesOthers 2 (some .boolean) false 1 := ⟨m_742, m_1035, m_4, ⟨m_740, m_741⟩, by decide, by decide, by decide +kernel⟩
theorem cw_X5_187 : cwd RX5 187 yX1_isLast cX1_isLast 3 (some .boolean) false 2 := ⟨m_1039, m_1036, m_4, ⟨m_1037, m_1038⟩, by decide, by decide, by decide +kernel⟩
theorem dX5_hasLateMan_0 : decode cX5_hasLateMan 0 = .ok (.aload_n 1, 1) := by decide +kernel
theorem dX5_hasLateMan_1 : decode cX5_hasLateMan 1 = .ok (.getfield 33, 3) := by decide +kernel
theorem dX5_hasLateMan_4 : decode cX5_hasLateMan 4 = .ok (.iconst 0, 1) := by decide +kernel
theorem dX5_hasLateMan_5 : decode cX5_hasLateMan 5 = .ok (.laload, 1) := by decide +kernel
theorem dX5_hasLateMan_6 : decode cX5_hasLateMan 6 = .ok (.aload_n 1, 1) := by decide +kernel
theorem dX5_hasLateMan_7 : decode cX5_hasLateMan 7 = .ok (.getfield 33, 3) := by decide +kernel
theorem dX5_hasLateMan_10 : decode cX5_hasLateMan 10 = .ok (.iconst 1, 1) := by decide +kernel
theorem dX5_hasLateMan_11 : decode cX5_hasLateMan 11 = .ok (.laload, 1) := by decide +kernel
theorem dX5_hasLateMan_12 : decode cX5_hasLateMan 12 = .ok (.lor, 1) := by decide +kernel
theorem dX5_hasLateMan_13 : decode cX5_hasLateMan 13 = .ok (.lstore_n 2, 1) := by decide +kernel
theorem dX5_hasLateMan_14 : decode cX5_hasLateMan 14 = .ok (.iconst 0, 1) := by decide +kernel
theorem dX5_hasLateMan_15 : decode cX5_hasLateMan 15 = .ok (.istore 4, 2) := by decide +kernel
theorem dX5_hasLateMan_17 : decode cX5_hasLateMan 17 = .ok (.iload 4, 2) := by decide +kernel
theorem dX5_hasLateMan_19 : decode cX5_hasLateMan 19 = .ok (.bipush 64, 2) := by decide +kernel
theorem dX5_hasLateMan_21 : decode cX5_hasLateMan 21 = .ok (.if_icmp .ge 68, 3) := by decide +kernel
theorem dX5_hasLateMan_24 : decode cX5_hasLateMan 24 = .ok (.lload_n 2, 1) := by decide +kernel
theorem dX5_hasLateMan_25 : decode cX5_hasLateMan 25 = .ok (.lconst 0, 1) := by decide +kernel
theorem dX5_hasLateMan_26 : decode cX5_hasLateMan 26 = .ok (.lcmp, 1) := by decide +kernel
theorem dX5_hasLateMan_27 : decode cX5_hasLateMan 27 = .ok (.ifCond .eq 62, 3) := by decide +kernel
theorem dX5_hasLateMan_30 : decode cX5_hasLateMan 30 = .ok (.lload_n 2, 1) := by decide +kernel
theorem dX5_hasLateMan_31 : decode cX5_hasLateMan 31 = .ok (.invokestatic 85, 3) := by decide +kernel
theorem dX5_hasLateMan_34 : decode cX5_hasLateMan 34 = .ok (.istore 5, 2) := by decide +kernel
theorem dX5_hasLateMan_36 : decode cX5_hasLateMan 36 = .ok (.lload_n 2, 1) := by decide +kernel
theorem dX5_hasLateMan_37 : decode cX5_hasLateMan 37 = .ok (.lload_n 2, 1) := by decide +kernel
theorem dX5_hasLateMan_38 : decode cX5_hasLateMan 38 = .ok (.lconst 1, 1) := by decide +kernel
theorem dX5_hasLateMan_39 : decode cX5_hasLateMan 39 = .ok (.lsub, 1) := by decide +kernel
theorem dX5_hasLateMan_40 : decode cX5_hasLateMan 40 = .ok (.land, 1) := by decide +kernel
theorem dX5_hasLateMan_41 : decode cX5_hasLateMan 41 = .ok (.lstore_n 2, 1) := by decide +kernel
theorem dX5_hasLateMan_42 : decode cX5_hasLateMan 42 = .ok (.aload_n 1, 1) := by decide +kernel
theorem dX5_hasLateMan_43 : decode cX5_hasLateMan 43 = .ok (.getfield 42, 3) := by decide +kernel
theorem dX5_hasLateMan_46 : decode cX5_hasLateMan 46 = .ok (.iload 5, 2) := by decide +kernel
theorem dX5_hasLateMan_48 : decode cX5_hasLateMan 48 = .ok (.baload, 1) := by decide +kernel
theorem dX5_hasLateMan_49 : decode cX5_hasLateMan 49 = .ok (.istore 6, 2) := by decide +kernel
theorem dX5_hasLateMan_51 : decode cX5_hasLateMan 51 = .ok (.aload_n 0, 1) := by decide +kernel
theorem dX5_hasLateMan_52 : decode cX5_hasLateMan 52 = .ok (.getfield 22, 3) := by decide +kernel
theorem dX5_hasLateMan_55 : decode cX5_hasLateMan 55 = .ok (.iload 6, 2) := by decide +kernel
theorem dX5_hasLateMan_57 : decode cX5_hasLateMan 57 = .ok (.iconst 1, 1) := by decide +kernel
theorem dX5_hasLateMan_58 : decode cX5_hasLateMan 58 = .ok (.ishr, 1) := by decide +kernel
theorem dX5_hasLateMan_59 : decode cX5_hasLateMan 59 = .ok (.invokevirtual 212, 3) := by decide +kernel
theorem dX5_hasLateMan_62 : decode cX5_hasLateMan 62 = .ok (.ifCond .eq 21, 3) := by decide +kernel
theorem dX5_hasLateMan_65 : decode cX5_hasLateMan 65 = .ok (.aload_n 0, 1) := by decide +kernel
theorem dX5_hasLateMan_66 : decode cX5_hasLateMan 66 = .ok (.getfield 22, 3) := by decide +kernel
theorem dX5_hasLateMan_69 : decode cX5_hasLateMan 69 = .ok (.iload 5, 2) := by decide +kernel
theorem dX5_hasLateMan_71 : decode cX5_hasLateMan 71 = .ok (.iload 6, 2) := by decide +kernel
theorem dX5_hasLateMan_73 : decode cX5_hasLateMan 73 = .ok (.iconst 1, 1) := by decide +kernel
theorem dX5_hasLateMan_74 : decode cX5_hasLateMan 74 = .ok (.iand, 1) := by decide +kernel
theorem dX5_hasLateMan_75 : decode cX5_hasLateMan 75 = .ok (.invokevirtual 187, 3) := by decide +kernel
theorem dX5_hasLateMan_78 : decode cX5_hasLateMan 78 = .ok (.ifCond .eq 5, 3) := by decide +kernel
theorem dX5_hasLateMan_81 : decode cX5_hasLateMan 81 = .ok (.iconst 1, 1) := by decide +kernel
theorem dX5_hasLateMan_82 : decode cX5_hasLateMan 82 = .ok (.ireturn, 1) := by decide +kernel
theorem dX5_hasLateMan_83 : decode cX5_hasLateMan 83 = .ok (.iinc 4 1, 3) := by decide +kernel
theorem dX5_hasLateMan_86 : decode cX5_hasLateMan 86 = .ok (.goto (-69), 3) := by decide +kernel
theorem dX5_hasLateMan_89 : decode cX5_hasLateMan 89 = .ok (.iconst 0, 1) := by decide +kernel
theorem dX5_hasLateMan_90 : decode cX5_hasLateMan 90 = .ok (.ireturn, 1) := by decide +kernel
set_option maxRecDepth 20000 in
theorem moX5_hasLateMan_89 {o : Int32 × Hp} {F : Nat} {h : Hp} (hE : sX5_hasLateMan_89 F h  = some o) : Le h o.2 := by
  exact le_some2 hE
set_option maxRecDepth 20000 in
theorem moX5_hasLateMan_83 {o : Int32 × Hp} {k_17 : Hp → Nat → Nat → Int64 → Int32 → Option (Int32 × Hp)} {F : Nat} (mk_17 : ∀ (h : Hp) (x0 : Nat) (x1 : Nat) (x2 : Int64) (x4 : Int32), k_17 h x0 x1 x2 x4 = some o → Le h o.2) {h : Hp} {x0 : Nat} {x1 : Nat} {x2 : Int64} {x4 : Int32} (hE : sX5_hasLateMan_83 F k_17 h x0 x1 x2 x4 = some o) : Le h o.2 := by
  obtain ⟨v_1, ev_1, hE⟩ := nm_e2 hE
  exact mk_17 _ _ _ _ _ hE
set_option maxRecDepth 20000 in
theorem moX5_hasLateMan_17 {o : Int32 × Hp} {F : Nat} : ∀ (f : Nat) {h : Hp} {x0 : Nat} {x1 : Nat} {x2 : Int64} {x4 : Int32}, sX5_hasLateMan_17 F f h x0 x1 x2 x4 = some o → Le h o.2 := by
  intro f
  induction f with
  | zero =>
    intro h x0 x1 x2 x4 hE
    rw [sX5_hasLateMan_17] at hE
    cases hE
  | succ f ih =>
    intro h x0 x1 x2 x4 hE
    rw [sX5_hasLateMan_17] at hE
    have mk_17 : ∀ (h : Hp) (x0 : Nat) (x1 : Nat) (x2 : Int64) (x4 : Int32), sX5_hasLateMan_17 F f h x0 x1 x2 x4 = some o → Le h o.2 := fun h x0 x1 x2 x4 hE => ih hE
    rcases br_e hE with ⟨_, hE⟩ | ⟨_, hE⟩
    · exact moX5_hasLateMan_89 hE
    · rcases br_e hE with ⟨_, hE⟩ | ⟨_, hE⟩
      · exact moX5_hasLateMan_89 hE
      · obtain ⟨o_3, eo_3, hE⟩ := cl_e hE
        refine (moX11_lowest eo_3).tr ?_
        obtain ⟨v_4, ev_4, hE⟩ := nm_e2 hE
        obtain ⟨r_5, er_5, hE⟩ := cl_e hE
        obtain ⟨g_6, hE⟩ := gd_e hE
        obtain ⟨v_7, ev_7, hE⟩ := nm_e2 hE
        obtain ⟨r_8, er_8, hE⟩ := cl_e hE
        obtain ⟨o_9, eo_9, hE⟩ := cl_e hE
        refine (moX1_becomesOthers eo_9).tr ?_
        rcases br_e hE with ⟨_, hE⟩ | ⟨_, hE⟩
        · exact moX5_hasLateMan_83 mk_17 hE
        · obtain ⟨r_11, er_11, hE⟩ := cl_e hE
          obtain ⟨o_12, eo_12, hE⟩ := cl_e hE
          refine (moX1_isLast eo_12).tr ?_
          rcases br_e hE with ⟨_, hE⟩ | ⟨_, hE⟩
          · exact moX5_hasLateMan_83 mk_17 hE
          · exact le_some2 hE
set_option maxRecDepth 20000 in
theorem moX5_hasLateMan {o : Int32 × Hp} {F : Nat} {h : Hp} {x0 : Nat} {x1 : Nat} (hE : sX5_hasLateMan F h x0 x1 = some o) : Le h o.2 := by
  obtain ⟨r_1, er_1, hE⟩ := cl_e hE
  obtain ⟨g_2, hE⟩ := gd_e hE
  obtain ⟨r_3, er_3, hE⟩ := cl_e hE
  obtain ⟨g_4, hE⟩ := gd_e hE
  obtain ⟨v_5, ev_5, hE⟩ := nm_e2 hE
  exact moX5_hasLateMan_17 _ hE
set_option maxRecDepth 20000 in
theorem bX5_hasLateMan_89 {p : Program} {l : Launch} {e : Env} {s : State} {m : MethodId} {args : Array Value} {below : List Frame} {meth : Method} {c : Code} {X : Ec} {h0 : Hp} {o : Int32 × Hp} {F : Nat} (C : Cx X p s m args meth c RX5 cX5_hasLateMan 7 (some .boolean) "hasLateMan") {h : Hp} {H : Heap} {locs : List Loc} (hkm : Km h0 h) (hW : Wx X h H) (hZ : va_S (aA (eB X)) s.heap H locs) (ls : Array Slot) (hl : lv_has ls 7 []) (hE : sX5_hasLateMan_89 F h  = some o) : W p l e (rm 1 22) s m args below meth c H locs 0 0 (MQ below (QI X h0 o.1 o.2) args s 0 0 (aA (eB X))) (F0 m 89 ls []) := by
  refine lv_iconst (v := (0 : Int32)) C.1 C.2.1 dX5_hasLateMan_89 (by decide) ?_
  exact x_iret C rfl (by decide) hW hZ hkm hE dX5_hasLateMan_90
set_option maxRecDepth 20000 in
theorem bX5_hasLateMan_83 {p : Program} {l : Launch} {e : Env} {s : State} {m : MethodId} {args : Array Value} {below : List Frame} {meth : Method} {c : Code} {X : Ec} {h0 : Hp} {o : Int32 × Hp} {k_17 : Hp → Nat → Nat → Int64 → Int32 → Option (Int32 × Hp)} {F : Nat} (C : Cx X p s m args meth c RX5 cX5_hasLateMan 7 (some .boolean) "hasLateMan") (hk_17 : ∀ (h : Hp) (x0 : Nat) (x1 : Nat) (x2 : Int64) (x4 : Int32) (H : Heap) (locs : List Loc), hK h x0 = 5 → hK h x1 = 3 → Km h0 h → Wx X h H → va_S (aA (eB X)) s.heap H locs → ∀ (ls : Array Slot), lv_has ls 7 [(0, .ref x0), (1, .ref x1), (2, .long x2), (4, .int x4)] → k_17 h x0 x1 x2 x4 = some o → W p l e (rm 1 22) s m args below meth c H locs 0 0 (MQ below (QI X h0 o.1 o.2) args s 0 0 (aA (eB X))) (F0 m 17 ls [])) {h : Hp} {x0 : Nat} {x1 : Nat} {x2 : Int64} {x4 : Int32} {H : Heap} {locs : List Loc} (k_x0 : hK h x0 = 5) (k_x1 : hK h x1 = 3) (hkm : Km h0 h) (hW : Wx X h H) (hZ : va_S (aA (eB X)) s.heap H locs) (ls : Array Slot) (hl : lv_has ls 7 [(0, .ref x0), (1, .ref x1), (2, .long x2), (4, .int x4)]) (hE : sX5_hasLateMan_83 F k_17 h x0 x1 x2 x4 = some o) : W p l e (rm 1 22) s m args below meth c H locs 0 0 (MQ below (QI X h0 o.1 o.2) args s 0 0 (aA (eB X))) (F0 m 83 ls []) := by
  obtain ⟨v_1, ev_1, hE⟩ := nm_e2 hE
  refine lv_iinc (v := v_1) (lv' := [(4, .int v_1), (0, .ref x0), (1, .ref x1), (2, .long x2)]) C.1 C.2.1 dX5_hasLateMan_83 hl (k := 3) rfl (by rw [ev_1]; rfl) (by decide) rfl (fun ls hl => ?_)
  refine lv_goto (tgt := 17) C.1 C.2.1 dX5_hasLateMan_86 (by decide) ?_
  exact hk_17 _ _ _ _ _ _ _ k_x0 k_x1 hkm hW hZ _ (lv_sub hl [1, 2, 3, 0] rfl) hE
set_option maxRecDepth 20000 in
theorem bX5_hasLateMan_17 {p : Program} {l : Launch} {e : Env} {s : State} {m : MethodId} {args : Array Value} {below : List Frame} {meth : Method} {c : Code} {X : Ec} {h0 : Hp} {o : Int32 × Hp} {F : Nat} (C : Cx X p s m args meth c RX5 cX5_hasLateMan 7 (some .boolean) "hasLateMan") : ∀ (f : Nat) {h : Hp} {x0 : Nat} {x1 : Nat} {x2 : Int64} {x4 : Int32} {H : Heap} {locs : List Loc} (k_x0 : hK h x0 = 5) (k_x1 : hK h x1 = 3), Km h0 h → Wx X h H → va_S (aA (eB X)) s.heap H locs → ∀ (ls : Array Slot), lv_has ls 7 [(0, .ref x0), (1, .ref x1), (2, .long x2), (4, .int x4)] → sX5_hasLateMan_17 F f h x0 x1 x2 x4 = some o → W p l e (rm 1 22) s m args below meth c H locs 0 0 (MQ below (QI X h0 o.1 o.2) args s 0 0 (aA (eB X))) (F0 m 17 ls []) := by
  intro f
  induction f with
  | zero =>
    intro h x0 x1 x2 x4 H locs k_x0 k_x1 hkm hW hZ ls hl hE
    rw [sX5_hasLateMan_17] at hE
    cases hE
  | succ f ih =>
    intro h x0 x1 x2 x4 H locs k_x0 k_x1 hkm hW hZ ls hl hE
    rw [sX5_hasLateMan_17] at hE
    have hk_17 : ∀ (h : Hp) (x0 : Nat) (x1 : Nat) (x2 : Int64) (x4 : Int32) (H : Heap) (locs : List Loc), hK h x0 = 5 → hK h x1 = 3 → Km h0 h → Wx X h H → va_S (aA (eB X)) s.heap H locs → ∀ (ls : Array Slot), lv_has ls 7 [(0, .ref x0), (1, .ref x1), (2, .long x2), (4, .int x4)] → sX5_hasLateMan_17 F f h x0 x1 x2 x4 = some o → W p l e (rm 1 22) s m args below meth c H locs 0 0 (MQ below (QI X h0 o.1 o.2) args s 0 0 (aA (eB X))) (F0 m 17 ls []) := fun h x0 x1 x2 x4 H locs k_x0 k_x1 a b c ls hl hE => ih k_x0 k_x1 a b c ls hl hE
    refine lv_iload C.1 C.2.1 dX5_hasLateMan_17 (lv_at hl 3 rfl) ?_
    refine lv_bipush (v := (64 : Int32)) C.1 C.2.1 dX5_hasLateMan_19 (by decide) ?_
    refine lv_icmp_ge (tgt := 89) C.1 C.2.1 dX5_hasLateMan_21 (by decide) (fun c_1 => ?_) (fun c_1 => ?_)
    · have hE := br_p hE c_1
      exact bX5_hasLateMan_89 C hkm hW hZ _ (lv_sub hl [] rfl) hE
    · have hE := br_n hE c_1
      refine lv_lload_n C.1 C.2.1 dX5_hasLateMan_24 rfl (lv_at hl 2 rfl) ?_
      refine lv_lconst (v := (0 : Int64)) C.1 C.2.1 dX5_hasLateMan_25 (by decide) ?_
      refine W.lcmp C.1 C.2.1 dX5_hasLateMan_26 ?_
      refine lv_if_eq (tgt := 89) C.1 C.2.1 dX5_hasLateMan_27 (by decide) (fun c_2 => ?_) (fun c_2 => ?_)
      · have hE := br_p hE c_2
        exact bX5_hasLateMan_89 C hkm hW hZ _ (lv_sub hl [] rfl) hE
      · have hE := br_n hE c_2
        refine lv_lload_n C.1 C.2.1 dX5_hasLateMan_30 rfl (lv_at hl 2 rfl) ?_
        obtain ⟨o_3, eo_3, hE⟩ := cl_e hE
        refine x_kI (o := o_3) (x_runSN (As := [.long x2]) (rest := []) C (ct_X11_lowest l X eo_3) cn_X5_85 hW hZ rfl hl.1 (Nat.le_of_ble_eq_true rfl) rfl dX5_hasLateMan_31 ⟨Nat.le_of_ble_eq_true rfl, Nat.le_of_ble_eq_true rfl⟩ ⟨Nat.le_refl _, Nat.le_refl _⟩) hZ (fun _ _ hW km hZ => ?_)
        replace hkm := hkm.tr km
        replace k_x0 := km.at k_x0 (by decide)
        replace k_x1 := km.at k_x1 (by decide)
        refine lv_istore (lv' := [(5, .int o_3.1), (0, .ref x0), (1, .ref x1), (2, .long x2), (4, .int x4)]) C.1 C.2.1 dX5_hasLateMan_34 hl (by decide) rfl (fun ls hl => ?_)
        refine lv_lload_n C.1 C.2.1 dX5_hasLateMan_36 rfl (lv_at hl 3 rfl) ?_
        refine lv_lload_n C.1 C.2.1 dX5_hasLateMan_37 rfl (lv_at hl 3 rfl) ?_
        refine lv_lconst (v := (1 : Int64)) C.1 C.2.1 dX5_hasLateMan_38 (by decide) ?_
        refine lv_lsub C.1 C.2.1 dX5_hasLateMan_39 ?_
        refine lv_land C.1 C.2.1 dX5_hasLateMan_40 ?_
        obtain ⟨v_4, ev_4, hE⟩ := nm_e2 hE
        refine x_nmJ ev_4 ?_
        refine lv_lstore_n (lv' := [(2, .long v_4), (5, .int o_3.1), (0, .ref x0), (1, .ref x1), (4, .int x4)]) C.1 C.2.1 dX5_hasLateMan_41 rfl hl (by decide) rfl (fun ls hl => ?_)
        refine lv_aload_n C.1 C.2.1 dX5_hasLateMan_42 rfl (lv_at hl 3 rfl) ?_
        obtain ⟨r_5, er_5, hE⟩ := cl_e hE
        refine gf_X5_42 C hW k_x1 er_5 dX5_hasLateMan_43 (fun k_r_5 => ?_)
        refine lv_iload C.1 C.2.1 dX5_hasLateMan_46 (lv_at hl 1 rfl) ?_
        obtain ⟨g_6, hE⟩ := gd_e hE
        refine y_bald C hW k_r_5 g_6 dX5_hasLateMan_48 ?_
        obtain ⟨v_7, ev_7, hE⟩ := nm_e2 hE
        refine x_nmI ev_7 ?_
        refine lv_istore (lv' := [(6, .int v_7), (2, .long v_4), (5, .int o_3.1), (0, .ref x0), (1, .ref x1), (4, .int x4)]) C.1 C.2.1 dX5_hasLateMan_49 hl (by decide) rfl (fun ls hl => ?_)
        refine lv_aload_n C.1 C.2.1 dX5_hasLateMan_51 rfl (lv_at hl 3 rfl) ?_
        obtain ⟨r_8, er_8, hE⟩ := cl_e hE
        refine gf_X5_22 C hW k_x0 er_8 dX5_hasLateMan_52 (fun k_r_8 => ?_)
        refine lv_iload C.1 C.2.1 dX5_hasLateMan_55 (lv_at hl 0 rfl) ?_
        refine lv_iconst (v := (1 : Int32)) C.1 C.2.1 dX5_hasLateMan_57 (by decide) ?_
        refine lv_ishr C.1 C.2.1 dX5_hasLateMan_58 ?_
        obtain ⟨o_9, eo_9, hE⟩ := cl_e hE
        refine x_kI (o := o_9) (z_runV (As := [.int (v_7 >>> ((1 : Int32) &&& 31))]) (rest := []) C (ct_X1_becomesOthers l X k_r_8 eo_9) cw_X5_212 hW hZ k_r_8 (by decide) rfl rfl rfl hl.1 (Nat.le_of_ble_eq_true rfl) rfl dX5_hasLateMan_59 ⟨Nat.le_of_ble_eq_true rfl, Nat.le_of_ble_eq_true rfl⟩ ⟨Nat.le_refl _, Nat.le_refl _⟩) hZ (fun _ _ hW km hZ => ?_)
        replace hkm := hkm.tr km
        replace k_x0 := km.at k_x0 (by decide)
        replace k_x1 := km.at k_x1 (by decide)
        refine lv_if_eq (tgt := 83) C.1 C.2.1 dX5_hasLateMan_62 (by decide) (fun c_10 => ?_) (fun c_10 => ?_)
        · have hE := br_p hE c_10
          exact bX5_hasLateMan_83 C hk_17 k_x0 k_x1 hkm hW hZ _ (lv_sub hl [3, 4, 1, 5] rfl) hE
        · have hE := br_n hE c_10
          refine lv_aload_n C.1 C.2.1 dX5_hasLateMan_65 rfl (lv_at hl 3 rfl) ?_
          obtain ⟨r_11, er_11, hE⟩ := cl_e hE
          refine gf_X5_22 C hW k_x0 er_11 dX5_hasLateMan_66 (fun k_r_11 => ?_)
          refine lv_iload C.1 C.2.1 dX5_hasLateMan_69 (lv_at hl 2 rfl) ?_
          refine lv_iload C.1 C.2.1 dX5_hasLateMan_71 (lv_at hl 0 rfl) ?_
          refine lv_iconst (v := (1 : Int32)) C.1 C.2.1 dX5_hasLateMan_73 (by decide) ?_
          refine lv_iand C.1 C.2.1 dX5_hasLateMan_74 ?_
          obtain ⟨o_12, eo_12, hE⟩ := cl_e hE
          refine x_kI (o := o_12) (z_runV (As := [.int o_3.1, .int (v_7 &&& (1 : Int32))]) (rest := []) C (ct_X1_isLast l X k_r_11 eo_12) cw_X5_187 hW hZ k_r_11 (by decide) rfl rfl rfl hl.1 (Nat.le_of_ble_eq_true rfl) rfl dX5_hasLateMan_75 ⟨Nat.le_of_ble_eq_true rfl, Nat.le_of_ble_eq_true rfl⟩ ⟨Nat.le_refl _, Nat.le_refl _⟩) hZ (fun _ _ hW km hZ => ?_)
          replace hkm := hkm.tr km
          replace k_x0 := km.at k_x0 (by decide)
          replace k_x1 := km.at k_x1 (by decide)
          refine lv_if_eq (tgt := 83) C.1 C.2.1 dX5_hasLateMan_78 (by decide) (fun c_13 => ?_) (fun c_13 => ?_)
          · have hE := br_p hE c_13
            exact bX5_hasLateMan_83 C hk_17 k_x0 k_x1 hkm hW hZ _ (lv_sub hl [3, 4, 1, 5] rfl) hE
          · have hE := br_n hE c_13
            refine lv_iconst (v := (1 : Int32)) C.1 C.2.1 dX5_hasLateMan_81 (by decide) ?_
            exact x_iret C rfl (by decide) hW hZ hkm hE dX5_hasLateMan_82
set_option maxRecDepth 20000 in
theorem ct_X5_hasLateMan (l : Launch) (X : Ec) (F : Nat) {h : Hp} {x0 : Nat} {x1 : Nat} {o : Int32 × Hp} (k_x0 : hK h x0 = 5) (k_x1 : hK h x1 = 3) (hE : sX5_hasLateMan F h x0 x1 = some o) : MetI l yX5_hasLateMan cX5_hasLateMan 7 (some .boolean) 1 22 X [.ref x0, .ref x1] h o := by
  refine x_met (by decide) (Nat.le_of_ble_eq_true rfl) ?_
  intro p e s m below meth c ls C hl hW hZ
  have hl : lv_has ls 7 [(0, .ref x0), (1, .ref x1)] := hl
  have hkm : Km h h := Km.rf h
  refine lv_aload_n C.1 C.2.1 dX5_hasLateMan_0 rfl (lv_at hl 1 rfl) ?_
  obtain ⟨r_1, er_1, hE⟩ := cl_e hE
  refine gf_X5_33 C hW k_x1 er_1 dX5_hasLateMan_1 (fun k_r_1 => ?_)
  refine lv_iconst (v := (0 : Int32)) C.1 C.2.1 dX5_hasLateMan_4 (by decide) ?_
  obtain ⟨g_2, hE⟩ := gd_e hE
  refine y_lald C hW k_r_1 g_2 dX5_hasLateMan_5 ?_
  refine lv_aload_n C.1 C.2.1 dX5_hasLateMan_6 rfl (lv_at hl 1 rfl) ?_
  obtain ⟨r_3, er_3, hE⟩ := cl_e hE
  refine gf_X5_33 C hW k_x1 er_3 dX5_hasLateMan_7 (fun k_r_3 => ?_)
  refine lv_iconst (v := (1 : Int32)) C.1 C.2.1 dX5_hasLateMan_10 (by decide) ?_
  obtain ⟨g_4, hE⟩ := gd_e hE
  refine y_lald C hW k_r_3 g_4 dX5_hasLateMan_11 ?_
  refine lv_lor C.1 C.2.1 dX5_hasLateMan_12 ?_
  obtain ⟨v_5, ev_5, hE⟩ := nm_e2 hE
  refine x_nmJ ev_5 ?_
  refine lv_lstore_n (lv' := [(2, .long v_5), (0, .ref x0), (1, .ref x1)]) C.1 C.2.1 dX5_hasLateMan_13 rfl hl (by decide) rfl (fun ls hl => ?_)
  refine lv_iconst (v := (0 : Int32)) C.1 C.2.1 dX5_hasLateMan_14 (by decide) ?_
  refine lv_istore (lv' := [(4, .int (0 : Int32)), (2, .long v_5), (0, .ref x0), (1, .ref x1)]) C.1 C.2.1 dX5_hasLateMan_15 hl (by decide) rfl (fun ls hl => ?_)
  exact bX5_hasLateMan_17 C F k_x0 k_x1 hkm hW hZ _ (lv_sub hl [2, 3, 1, 0] rfl) hE
set_option maxRecDepth 100000 in
theorem m_75 : Cond.fieldLink RX5 110 (TX1 2).1 (TX1 2).2.1 (TX1 2).2.2.1 ∈ W0 := w0_in (List.mem_append_right _ (List.mem_of_getElem? (i := 75) rfl)) rfl
set_option maxRecDepth 100000 in
theorem m_99 : Cond.fieldLink RX5 248 (TX1 6).1 (TX1 6).2.1 (TX1 6).2.2.1 ∈ W0 := w0_in (List.mem_append_right _ (List.mem_of_getElem? (i := 99) rfl)) rfl
set_option maxRecDepth 100000 in
theorem m_288 : Cond.fieldLink RX5 60 (TX3 2).1 (TX3 2).2.1 (TX3 2).2.2.1 ∈ W0 := w0_in (List.mem_append_right _ (List.mem_of_getElem? (i := 288) rfl)) rfl
set_option maxRecDepth 100000 in
theorem m_313 : Cond.fieldLink RX5 93 (TX3 8).1 (TX3 8).2.1 (TX3 8).2.2.1 ∈ W0 := w0_in (List.mem_append_right _ (List.mem_of_getElem? (i := 313) rfl)) rfl
set_option maxRecDepth 100000 in
theorem m_1044 : Cond.methodLink RX5 332 yX1_isFirst ∈ W0 := w0_in (List.mem_append_right _ (List.mem_of_getElem? (i := 1044) rfl)) rfl
set_option maxRecDepth 100000 in
theorem m_1045 : Cond.instanceMethod yX1_isFirst ∈ W0 := w0_in (List.mem_append_right _ (List.mem_of_getElem? (i := 1045) rfl)) rfl
set_option maxRecDepth 100000 in
theorem m_1046 : Cond.selects RX1 yX1_isFirst yX1_isFirst ∈ W0 := w0_in (List.mem_append_right _ (List.mem_of_getElem? (i := 1046) rfl)) rfl
set_option maxRecDepth 100000 in
theorem m_1047 : Cond.code yX1_isFirst cX1_isFirst 3 (some .boolean) ∈ W0 := w0_in (List.mem_append_right _ (List.mem_of_getElem? (i := 1047) rfl)) rfl
section
variable {p : Program} {l : Launch} {e : Env} {R : Room} {s : State} {m : MethodId} {args : Array Value} {below : List Frame} {meth : Method} {c : Code} {H : Heap} {locs : List Loc} {cells slots : Nat} {Q : State → Prop}
variable {cc : ByteArray} {pc : Nat} {ls : Array Slot} {rest : List Value} {X : Ec} {h h1 : Hp} {nL : Nat} {rt : Option FieldType} {mn : String}
theorem gf_X5_110 {a : Nat} (C : Cx X p s m args meth c RX5 cc nL rt mn) (hW : Wx X h H) (ha : hK h a = 1) (hdg : decode cc pc = .ok (.getfield 110, 3)) (kk : W p l e R s m args below meth c H locs cells slots Q (F0 m (pc + 3) ls (.int (hI h a 2) :: rest))) : W p l e R s m args below meth c H locs cells slots Q (F0 m pc ls (.ref a :: rest)) :=
  y_geti C hW ha i_X1 (by decide) rfl (by decide) m_75 rfl hdg kk
theorem gf_X5_93 {a : Nat} (C : Cx X p s m args meth c RX5 cc nL rt mn) (hW : Wx X h H) (ha : hK h a = 3) (hdg : decode cc pc = .ok (.getfield 93, 3)) (kk : W p l e R s m args below meth c H locs cells slots Q (F0 m (pc + 3) ls (.long (hJ h a 8) :: rest))) : W p l e R s m args below meth c H locs cells slots Q (F0 m pc ls (.ref a :: rest)) :=
  y_getj C hW ha i_X3 (by decide) rfl (by decide) m_313 rfl hdg kk
theorem gf_X5_248 {a : Nat} (C : Cx X p s m args meth c RX5 cc nL rt mn) (hW : Wx X h H) (ha : hK h a = 1) (hdg : decode cc pc = .ok (.getfield 248, 3)) (kk : W p l e R s m args below meth c H locs cells slots Q (F0 m (pc + 3) ls (.int (hI h a 6) :: rest))) : W p l e R s m args below meth c H locs cells slots Q (F0 m pc ls (.ref a :: rest)) :=
  y_geti C hW ha i_X1 (by decide) rfl (by decide) m_99 rfl hdg kk
theorem gf_X5_60 {a r : Nat} (C : Cx X p s m args meth c RX5 cc nL rt mn) (hW : Wx X h H) (ha : hK h a = 3) (hr : hR h a 2 = some r) (hdg : decode cc pc = .ok (.getfield 60, 3)) (kk : hK h r = 17 → W p l e R s m args below meth c H locs cells slots Q (F0 m (pc + 3) ls (.ref r :: rest))) : W p l e R s m args below meth c H locs cells slots Q (F0 m pc ls (.ref a :: rest)) :=
  y_getr C hW ha i_X3 (by decide) rfl (by decide) m_288 rfl rfl hr hdg kk
end
theorem cw_X5_332 : cwd RX5 332 yX1_isFirst cX1_isFirst 3 (some .boolean) false 2 := ⟨m_1047, m_1044, m_4, ⟨m_1045, m_1046⟩, by decide, by decide, by decide +kernel⟩
theorem dX5_hasRightRights_0 : decode cX5_hasRightRights 0 = .ok (.iconst 0, 1) := by decide +kernel
theorem dX5_hasRightRights_1 : decode cX5_hasRightRights 1 = .ok (.istore_n 2, 1) := by decide +kernel
theorem dX5_hasRightRights_2 : decode cX5_hasRightRights 2 = .ok (.iload_n 2, 1) := by decide +kernel
theorem dX5_hasRightRights_3 : decode cX5_hasRightRights 3 = .ok (.aload_n 0, 1) := by decide +kernel
theorem dX5_hasRightRights_4 : decode cX5_hasRightRights 4 = .ok (.getfield 22, 3) := by decide +kernel
theorem dX5_hasRightRights_7 : decode cX5_hasRightRights 7 = .ok (.getfield 110, 3) := by decide +kernel
theorem dX5_hasRightRights_10 : decode cX5_hasRightRights 10 = .ok (.if_icmp .ge 119, 3) := by decide +kernel
theorem dX5_hasRightRights_13 : decode cX5_hasRightRights 13 = .ok (.aload_n 1, 1) := by decide +kernel
theorem dX5_hasRightRights_14 : decode cX5_hasRightRights 14 = .ok (.getfield 93, 3) := by decide +kernel
theorem dX5_hasRightRights_17 : decode cX5_hasRightRights 17 = .ok (.lconst 0, 1) := by decide +kernel
theorem dX5_hasRightRights_18 : decode cX5_hasRightRights 18 = .ok (.lcmp, 1) := by decide +kernel
theorem dX5_hasRightRights_19 : decode cX5_hasRightRights 19 = .ok (.ifCond .eq 110, 3) := by decide +kernel
theorem dX5_hasRightRights_22 : decode cX5_hasRightRights 22 = .ok (.aload_n 1, 1) := by decide +kernel
theorem dX5_hasRightRights_23 : decode cX5_hasRightRights 23 = .ok (.getfield 93, 3) := by decide +kernel
theorem dX5_hasRightRights_26 : decode cX5_hasRightRights 26 = .ok (.iload_n 2, 1) := by decide +kernel
theorem dX5_hasRightRights_27 : decode cX5_hasRightRights 27 = .ok (.lushr, 1) := by decide +kernel
theorem dX5_hasRightRights_28 : decode cX5_hasRightRights 28 = .ok (.lconst 1, 1) := by decide +kernel
theorem dX5_hasRightRights_29 : decode cX5_hasRightRights 29 = .ok (.land, 1) := by decide +kernel
theorem dX5_hasRightRights_30 : decode cX5_hasRightRights 30 = .ok (.lconst 0, 1) := by decide +kernel
theorem dX5_hasRightRights_31 : decode cX5_hasRightRights 31 = .ok (.lcmp, 1) := by decide +kernel
theorem dX5_hasRightRights_32 : decode cX5_hasRightRights 32 = .ok (.ifCond .ne 6, 3) := by decide +kernel
theorem dX5_hasRightRights_35 : decode cX5_hasRightRights 35 = .ok (.goto 88, 3) := by decide +kernel
theorem dX5_hasRightRights_38 : decode cX5_hasRightRights 38 = .ok (.aload_n 1, 1) := by decide +kernel
theorem dX5_hasRightRights_39 : decode cX5_hasRightRights 39 = .ok (.getfield 42, 3) := by decide +kernel
theorem dX5_hasRightRights_42 : decode cX5_hasRightRights 42 = .ok (.iload_n 2, 1) := by decide +kernel
theorem dX5_hasRightRights_43 : decode cX5_hasRightRights 43 = .ok (.baload, 1) := by decide +kernel
theorem dX5_hasRightRights_44 : decode cX5_hasRightRights 44 = .ok (.istore_n 3, 1) := by decide +kernel
theorem dX5_hasRightRights_45 : decode cX5_hasRightRights 45 = .ok (.aload_n 0, 1) := by decide +kernel
theorem dX5_hasRightRights_46 : decode cX5_hasRightRights 46 = .ok (.getfield 22, 3) := by decide +kernel
theorem dX5_hasRightRights_49 : decode cX5_hasRightRights 49 = .ok (.getfield 248, 3) := by decide +kernel
theorem dX5_hasRightRights_52 : decode cX5_hasRightRights 52 = .ok (.iconst (-1), 1) := by decide +kernel
theorem dX5_hasRightRights_53 : decode cX5_hasRightRights 53 = .ok (.if_icmp .eq 35, 3) := by decide +kernel
theorem dX5_hasRightRights_56 : decode cX5_hasRightRights 56 = .ok (.iload_n 3, 1) := by decide +kernel
theorem dX5_hasRightRights_57 : decode cX5_hasRightRights 57 = .ok (.iconst (-1), 1) := by decide +kernel
theorem dX5_hasRightRights_58 : decode cX5_hasRightRights 58 = .ok (.if_icmp .eq 30, 3) := by decide +kernel
theorem dX5_hasRightRights_61 : decode cX5_hasRightRights 61 = .ok (.iload_n 3, 1) := by decide +kernel
theorem dX5_hasRightRights_62 : decode cX5_hasRightRights 62 = .ok (.iconst 1, 1) := by decide +kernel
theorem dX5_hasRightRights_63 : decode cX5_hasRightRights 63 = .ok (.ishr, 1) := by decide +kernel
theorem dX5_hasRightRights_64 : decode cX5_hasRightRights 64 = .ok (.aload_n 0, 1) := by decide +kernel
theorem dX5_hasRightRights_65 : decode cX5_hasRightRights 65 = .ok (.getfield 22, 3) := by decide +kernel
theorem dX5_hasRightRights_68 : decode cX5_hasRightRights 68 = .ok (.getfield 248, 3) := by decide +kernel
theorem dX5_hasRightRights_71 : decode cX5_hasRightRights 71 = .ok (.if_icmp .ne 17, 3) := by decide +kernel
theorem dX5_hasRightRights_74 : decode cX5_hasRightRights 74 = .ok (.aload_n 0, 1) := by decide +kernel
theorem dX5_hasRightRights_75 : decode cX5_hasRightRights 75 = .ok (.getfield 22, 3) := by decide +kernel
theorem dX5_hasRightRights_78 : decode cX5_hasRightRights 78 = .ok (.iload_n 2, 1) := by decide +kernel
theorem dX5_hasRightRights_79 : decode cX5_hasRightRights 79 = .ok (.iload_n 3, 1) := by decide +kernel
theorem dX5_hasRightRights_80 : decode cX5_hasRightRights 80 = .ok (.iconst 1, 1) := by decide +kernel
theorem dX5_hasRightRights_81 : decode cX5_hasRightRights 81 = .ok (.iand, 1) := by decide +kernel
theorem dX5_hasRightRights_82 : decode cX5_hasRightRights 82 = .ok (.invokevirtual 332, 3) := by decide +kernel
theorem dX5_hasRightRights_85 : decode cX5_hasRightRights 85 = .ok (.ifCond .ne 5, 3) := by decide +kernel
theorem dX5_hasRightRights_88 : decode cX5_hasRightRights 88 = .ok (.iconst 0, 1) := by decide +kernel
theorem dX5_hasRightRights_89 : decode cX5_hasRightRights 89 = .ok (.ireturn, 1) := by decide +kernel
theorem dX5_hasRightRights_90 : decode cX5_hasRightRights 90 = .ok (.aload_n 1, 1) := by decide +kernel
theorem dX5_hasRightRights_91 : decode cX5_hasRightRights 91 = .ok (.getfield 60, 3) := by decide +kernel
theorem dX5_hasRightRights_94 : decode cX5_hasRightRights 94 = .ok (.iload_n 3, 1) := by decide +kernel
theorem dX5_hasRightRights_95 : decode cX5_hasRightRights 95 = .ok (.iconst 1, 1) := by decide +kernel
theorem dX5_hasRightRights_96 : decode cX5_hasRightRights 96 = .ok (.iand, 1) := by decide +kernel
theorem dX5_hasRightRights_97 : decode cX5_hasRightRights 97 = .ok (.iaload, 1) := by decide +kernel
theorem dX5_hasRightRights_98 : decode cX5_hasRightRights 98 = .ok (.istore 4, 2) := by decide +kernel
theorem dX5_hasRightRights_100 : decode cX5_hasRightRights 100 = .ok (.iload 4, 2) := by decide +kernel
theorem dX5_hasRightRights_102 : decode cX5_hasRightRights 102 = .ok (.iconst (-1), 1) := by decide +kernel
theorem dX5_hasRightRights_103 : decode cX5_hasRightRights 103 = .ok (.if_icmp .eq 18, 3) := by decide +kernel
theorem dX5_hasRightRights_106 : decode cX5_hasRightRights 106 = .ok (.aload_n 0, 1) := by decide +kernel
theorem dX5_hasRightRights_107 : decode cX5_hasRightRights 107 = .ok (.getfield 22, 3) := by decide +kernel
theorem dX5_hasRightRights_110 : decode cX5_hasRightRights 110 = .ok (.iload 4, 2) := by decide +kernel
theorem dX5_hasRightRights_112 : decode cX5_hasRightRights 112 = .ok (.iload_n 3, 1) := by decide +kernel
theorem dX5_hasRightRights_113 : decode cX5_hasRightRights 113 = .ok (.iconst 1, 1) := by decide +kernel
theorem dX5_hasRightRights_114 : decode cX5_hasRightRights 114 = .ok (.iand, 1) := by decide +kernel
theorem dX5_hasRightRights_115 : decode cX5_hasRightRights 115 = .ok (.invokevirtual 332, 3) := by decide +kernel
theorem dX5_hasRightRights_118 : decode cX5_hasRightRights 118 = .ok (.ifCond .ne 5, 3) := by decide +kernel
theorem dX5_hasRightRights_121 : decode cX5_hasRightRights 121 = .ok (.iconst 0, 1) := by decide +kernel
theorem dX5_hasRightRights_122 : decode cX5_hasRightRights 122 = .ok (.ireturn, 1) := by decide +kernel
theorem dX5_hasRightRights_123 : decode cX5_hasRightRights 123 = .ok (.iinc 2 1, 3) := by decide +kernel
theorem dX5_hasRightRights_126 : decode cX5_hasRightRights 126 = .ok (.goto (-124), 3) := by decide +kernel
theorem dX5_hasRightRights_129 : decode cX5_hasRightRights 129 = .ok (.iconst 1, 1) := by decide +kernel
theorem dX5_hasRightRights_130 : decode cX5_hasRightRights 130 = .ok (.ireturn, 1) := by decide +kernel
set_option maxRecDepth 20000 in
theorem moX5_hasRightRights_129 {o : Int32 × Hp} {F : Nat} {h : Hp} (hE : sX5_hasRightRights_129 F h  = some o) : Le h o.2 := by
  exact le_some2 hE
set_option maxRecDepth 20000 in
theorem moX5_hasRightRights_88 {o : Int32 × Hp} {F : Nat} {h : Hp} (hE : sX5_hasRightRights_88 F h  = some o) : Le h o.2 := by
  exact le_some2 hE
set_option maxRecDepth 20000 in
theorem moX5_hasRightRights_121 {o : Int32 × Hp} {F : Nat} {h : Hp} (hE : sX5_hasRightRights_121 F h  = some o) : Le h o.2 := by
  exact le_some2 hE
set_option maxRecDepth 20000 in
theorem moX5_hasRightRights_123 {o : Int32 × Hp} {k_2 : Hp → Nat → Nat → Int32 → Option (Int32 × Hp)} {F : Nat} (mk_2 : ∀ (h : Hp) (x0 : Nat) (x1 : Nat) (x2 : Int32), k_2 h x0 x1 x2 = some o → Le h o.2) {h : Hp} {x0 : Nat} {x1 : Nat} {x2 : Int32} (hE : sX5_hasRightRights_123 F k_2 h x0 x1 x2 = some o) : Le h o.2 := by
  obtain ⟨v_1, ev_1, hE⟩ := nm_e2 hE
  exact mk_2 _ _ _ _ hE
set_option maxRecDepth 20000 in
theorem moX5_hasRightRights_2 {o : Int32 × Hp} {F : Nat} : ∀ (f : Nat) {h : Hp} {x0 : Nat} {x1 : Nat} {x2 : Int32}, sX5_hasRightRights_2 F f h x0 x1 x2 = some o → Le h o.2 := by
  intro f
  induction f with
  | zero =>
    intro h x0 x1 x2 hE
    rw [sX5_hasRightRights_2] at hE
    cases hE
  | succ f ih =>
    intro h x0 x1 x2 hE
    rw [sX5_hasRightRights_2] at hE
    have mk_2 : ∀ (h : Hp) (x0 : Nat) (x1 : Nat) (x2 : Int32), sX5_hasRightRights_2 F f h x0 x1 x2 = some o → Le h o.2 := fun h x0 x1 x2 hE => ih hE
    obtain ⟨r_1, er_1, hE⟩ := cl_e hE
    rcases br_e hE with ⟨_, hE⟩ | ⟨_, hE⟩
    · exact moX5_hasRightRights_129 hE
    · rcases br_e hE with ⟨_, hE⟩ | ⟨_, hE⟩
      · exact moX5_hasRightRights_129 hE
      · rcases br_e hE with ⟨_, hE⟩ | ⟨_, hE⟩
        · exact moX5_hasRightRights_123 mk_2 hE
        · obtain ⟨r_5, er_5, hE⟩ := cl_e hE
          obtain ⟨g_6, hE⟩ := gd_e hE
          obtain ⟨v_7, ev_7, hE⟩ := nm_e2 hE
          obtain ⟨r_8, er_8, hE⟩ := cl_e hE
          rcases br_e hE with ⟨_, hE⟩ | ⟨_, hE⟩
          · exact moX5_hasRightRights_88 hE
          · rcases br_e hE with ⟨_, hE⟩ | ⟨_, hE⟩
            · exact moX5_hasRightRights_88 hE
            · obtain ⟨r_11, er_11, hE⟩ := cl_e hE
              rcases br_e hE with ⟨_, hE⟩ | ⟨_, hE⟩
              · obtain ⟨r_13, er_13, hE⟩ := cl_e hE
                obtain ⟨o_14, eo_14, hE⟩ := cl_e hE
                refine (moX1_isFirst eo_14).tr ?_
                rcases br_e hE with ⟨_, hE⟩ | ⟨_, hE⟩
                · exact moX5_hasRightRights_88 hE
                · obtain ⟨r_16, er_16, hE⟩ := cl_e hE
                  obtain ⟨g_17, hE⟩ := gd_e hE
                  obtain ⟨v_18, ev_18, hE⟩ := nm_e2 hE
                  rcases br_e hE with ⟨_, hE⟩ | ⟨_, hE⟩
                  · exact moX5_hasRightRights_121 hE
                  · obtain ⟨r_20, er_20, hE⟩ := cl_e hE
                    obtain ⟨o_21, eo_21, hE⟩ := cl_e hE
                    refine (moX1_isFirst eo_21).tr ?_
                    rcases br_e hE with ⟨_, hE⟩ | ⟨_, hE⟩
                    · exact moX5_hasRightRights_121 hE
                    · exact moX5_hasRightRights_123 mk_2 hE
              · exact moX5_hasRightRights_88 hE
set_option maxRecDepth 20000 in
theorem moX5_hasRightRights {o : Int32 × Hp} {F : Nat} {h : Hp} {x0 : Nat} {x1 : Nat} (hE : sX5_hasRightRights F h x0 x1 = some o) : Le h o.2 := by
  exact moX5_hasRightRights_2 _ hE
set_option maxRecDepth 20000 in
theorem bX5_hasRightRights_129 {p : Program} {l : Launch} {e : Env} {s : State} {m : MethodId} {args : Array Value} {below : List Frame} {meth : Method} {c : Code} {X : Ec} {h0 : Hp} {o : Int32 × Hp} {F : Nat} (C : Cx X p s m args meth c RX5 cX5_hasRightRights 5 (some .boolean) "hasRightRights") {h : Hp} {H : Heap} {locs : List Loc} (hkm : Km h0 h) (hW : Wx X h H) (hZ : va_S (aA (eB X)) s.heap H locs) (ls : Array Slot) (hl : lv_has ls 5 []) (hE : sX5_hasRightRights_129 F h  = some o) : W p l e (rm 2 44) s m args below meth c H locs 0 0 (MQ below (QI X h0 o.1 o.2) args s 0 0 (aA (eB X))) (F0 m 129 ls []) := by
  refine lv_iconst (v := (1 : Int32)) C.1 C.2.1 dX5_hasRightRights_129 (by decide) ?_
  exact x_iret C rfl (by decide) hW hZ hkm hE dX5_hasRightRights_130
set_option maxRecDepth 20000 in
theorem bX5_hasRightRights_88 {p : Program} {l : Launch} {e : Env} {s : State} {m : MethodId} {args : Array Value} {below : List Frame} {meth : Method} {c : Code} {X : Ec} {h0 : Hp} {o : Int32 × Hp} {F : Nat} (C : Cx X p s m args meth c RX5 cX5_hasRightRights 5 (some .boolean) "hasRightRights") {h : Hp} {H : Heap} {locs : List Loc} (hkm : Km h0 h) (hW : Wx X h H) (hZ : va_S (aA (eB X)) s.heap H locs) (ls : Array Slot) (hl : lv_has ls 5 []) (hE : sX5_hasRightRights_88 F h  = some o) : W p l e (rm 2 44) s m args below meth c H locs 0 0 (MQ below (QI X h0 o.1 o.2) args s 0 0 (aA (eB X))) (F0 m 88 ls []) := by
  refine lv_iconst (v := (0 : Int32)) C.1 C.2.1 dX5_hasRightRights_88 (by decide) ?_
  exact x_iret C rfl (by decide) hW hZ hkm hE dX5_hasRightRights_89
set_option maxRecDepth 20000 in
theorem bX5_hasRightRights_121 {p : Program} {l : Launch} {e : Env} {s : State} {m : MethodId} {args : Array Value} {below : List Frame} {meth : Method} {c : Code} {X : Ec} {h0 : Hp} {o : Int32 × Hp} {F : Nat} (C : Cx X p s m args meth c RX5 cX5_hasRightRights 5 (some .boolean) "hasRightRights") {h : Hp} {H : Heap} {locs : List Loc} (hkm : Km h0 h) (hW : Wx X h H) (hZ : va_S (aA (eB X)) s.heap H locs) (ls : Array Slot) (hl : lv_has ls 5 []) (hE : sX5_hasRightRights_121 F h  = some o) : W p l e (rm 2 44) s m args below meth c H locs 0 0 (MQ below (QI X h0 o.1 o.2) args s 0 0 (aA (eB X))) (F0 m 121 ls []) := by
  refine lv_iconst (v := (0 : Int32)) C.1 C.2.1 dX5_hasRightRights_121 (by decide) ?_
  exact x_iret C rfl (by decide) hW hZ hkm hE dX5_hasRightRights_122
set_option maxRecDepth 20000 in
theorem bX5_hasRightRights_123 {p : Program} {l : Launch} {e : Env} {s : State} {m : MethodId} {args : Array Value} {below : List Frame} {meth : Method} {c : Code} {X : Ec} {h0 : Hp} {o : Int32 × Hp} {k_2 : Hp → Nat → Nat → Int32 → Option (Int32 × Hp)} {F : Nat} (C : Cx X p s m args meth c RX5 cX5_hasRightRights 5 (some .boolean) "hasRightRights") (hk_2 : ∀ (h : Hp) (x0 : Nat) (x1 : Nat) (x2 : Int32) (H : Heap) (locs : List Loc), hK h x0 = 5 → hK h x1 = 3 → Km h0 h → Wx X h H → va_S (aA (eB X)) s.heap H locs → ∀ (ls : Array Slot), lv_has ls 5 [(0, .ref x0), (1, .ref x1), (2, .int x2)] → k_2 h x0 x1 x2 = some o → W p l e (rm 2 44) s m args below meth c H locs 0 0 (MQ below (QI X h0 o.1 o.2) args s 0 0 (aA (eB X))) (F0 m 2 ls [])) {h : Hp} {x0 : Nat} {x1 : Nat} {x2 : Int32} {H : Heap} {locs : List Loc} (k_x0 : hK h x0 = 5) (k_x1 : hK h x1 = 3) (hkm : Km h0 h) (hW : Wx X h H) (hZ : va_S (aA (eB X)) s.heap H locs) (ls : Array Slot) (hl : lv_has ls 5 [(0, .ref x0), (1, .ref x1), (2, .int x2)]) (hE : sX5_hasRightRights_123 F k_2 h x0 x1 x2 = some o) : W p l e (rm 2 44) s m args below meth c H locs 0 0 (MQ below (QI X h0 o.1 o.2) args s 0 0 (aA (eB X))) (F0 m 123 ls []) := by
  obtain ⟨v_1, ev_1, hE⟩ := nm_e2 hE
  refine lv_iinc (v := v_1) (lv' := [(2, .int v_1), (0, .ref x0), (1, .ref x1)]) C.1 C.2.1 dX5_hasRightRights_123 hl (k := 2) rfl (by rw [ev_1]; rfl) (by decide) rfl (fun ls hl => ?_)
  refine lv_goto (tgt := 2) C.1 C.2.1 dX5_hasRightRights_126 (by decide) ?_
  exact hk_2 _ _ _ _ _ _ k_x0 k_x1 hkm hW hZ _ (lv_sub hl [1, 2, 0] rfl) hE
set_option maxRecDepth 20000 in
theorem bX5_hasRightRights_2 {p : Program} {l : Launch} {e : Env} {s : State} {m : MethodId} {args : Array Value} {below : List Frame} {meth : Method} {c : Code} {X : Ec} {h0 : Hp} {o : Int32 × Hp} {F : Nat} (C : Cx X p s m args meth c RX5 cX5_hasRightRights 5 (some .boolean) "hasRightRights") : ∀ (f : Nat) {h : Hp} {x0 : Nat} {x1 : Nat} {x2 : Int32} {H : Heap} {locs : List Loc} (k_x0 : hK h x0 = 5) (k_x1 : hK h x1 = 3), Km h0 h → Wx X h H → va_S (aA (eB X)) s.heap H locs → ∀ (ls : Array Slot), lv_has ls 5 [(0, .ref x0), (1, .ref x1), (2, .int x2)] → sX5_hasRightRights_2 F f h x0 x1 x2 = some o → W p l e (rm 2 44) s m args below meth c H locs 0 0 (MQ below (QI X h0 o.1 o.2) args s 0 0 (aA (eB X))) (F0 m 2 ls []) := by
  intro f
  induction f with
  | zero =>
    intro h x0 x1 x2 H locs k_x0 k_x1 hkm hW hZ ls hl hE
    rw [sX5_hasRightRights_2] at hE
    cases hE
  | succ f ih =>
    intro h x0 x1 x2 H locs k_x0 k_x1 hkm hW hZ ls hl hE
    rw [sX5_hasRightRights_2] at hE
    have hk_2 : ∀ (h : Hp) (x0 : Nat) (x1 : Nat) (x2 : Int32) (H : Heap) (locs : List Loc), hK h x0 = 5 → hK h x1 = 3 → Km h0 h → Wx X h H → va_S (aA (eB X)) s.heap H locs → ∀ (ls : Array Slot), lv_has ls 5 [(0, .ref x0), (1, .ref x1), (2, .int x2)] → sX5_hasRightRights_2 F f h x0 x1 x2 = some o → W p l e (rm 2 44) s m args below meth c H locs 0 0 (MQ below (QI X h0 o.1 o.2) args s 0 0 (aA (eB X))) (F0 m 2 ls []) := fun h x0 x1 x2 H locs k_x0 k_x1 a b c ls hl hE => ih k_x0 k_x1 a b c ls hl hE
    refine lv_iload_n C.1 C.2.1 dX5_hasRightRights_2 rfl (lv_at hl 2 rfl) ?_
    refine lv_aload_n C.1 C.2.1 dX5_hasRightRights_3 rfl (lv_at hl 0 rfl) ?_
    obtain ⟨r_1, er_1, hE⟩ := cl_e hE
    refine gf_X5_22 C hW k_x0 er_1 dX5_hasRightRights_4 (fun k_r_1 => ?_)
    refine gf_X5_110 C hW k_r_1 dX5_hasRightRights_7 ?_
    refine lv_icmp_ge (tgt := 129) C.1 C.2.1 dX5_hasRightRights_10 (by decide) (fun c_2 => ?_) (fun c_2 => ?_)
    · have hE := br_p hE c_2
      exact bX5_hasRightRights_129 C hkm hW hZ _ (lv_sub hl [] rfl) hE
    · have hE := br_n hE c_2
      refine lv_aload_n C.1 C.2.1 dX5_hasRightRights_13 rfl (lv_at hl 1 rfl) ?_
      refine gf_X5_93 C hW k_x1 dX5_hasRightRights_14 ?_
      refine lv_lconst (v := (0 : Int64)) C.1 C.2.1 dX5_hasRightRights_17 (by decide) ?_
      refine W.lcmp C.1 C.2.1 dX5_hasRightRights_18 ?_
      refine lv_if_eq (tgt := 129) C.1 C.2.1 dX5_hasRightRights_19 (by decide) (fun c_3 => ?_) (fun c_3 => ?_)
      · have hE := br_p hE c_3
        exact bX5_hasRightRights_129 C hkm hW hZ _ (lv_sub hl [] rfl) hE
      · have hE := br_n hE c_3
        refine lv_aload_n C.1 C.2.1 dX5_hasRightRights_22 rfl (lv_at hl 1 rfl) ?_
        refine gf_X5_93 C hW k_x1 dX5_hasRightRights_23 ?_
        refine lv_iload_n C.1 C.2.1 dX5_hasRightRights_26 rfl (lv_at hl 2 rfl) ?_
        refine lv_lushr C.1 C.2.1 dX5_hasRightRights_27 rfl ?_
        refine lv_lconst (v := (1 : Int64)) C.1 C.2.1 dX5_hasRightRights_28 (by decide) ?_
        refine lv_land C.1 C.2.1 dX5_hasRightRights_29 ?_
        refine lv_lconst (v := (0 : Int64)) C.1 C.2.1 dX5_hasRightRights_30 (by decide) ?_
        refine W.lcmp C.1 C.2.1 dX5_hasRightRights_31 ?_
        refine lv_if_ne (tgt := 38) C.1 C.2.1 dX5_hasRightRights_32 (by decide) (fun c_4 => ?_) (fun c_4 => ?_)
        · have hE := br_n hE c_4
          refine lv_aload_n C.1 C.2.1 dX5_hasRightRights_38 rfl (lv_at hl 1 rfl) ?_
          obtain ⟨r_5, er_5, hE⟩ := cl_e hE
          refine gf_X5_42 C hW k_x1 er_5 dX5_hasRightRights_39 (fun k_r_5 => ?_)
          refine lv_iload_n C.1 C.2.1 dX5_hasRightRights_42 rfl (lv_at hl 2 rfl) ?_
          obtain ⟨g_6, hE⟩ := gd_e hE
          refine y_bald C hW k_r_5 g_6 dX5_hasRightRights_43 ?_
          obtain ⟨v_7, ev_7, hE⟩ := nm_e2 hE
          refine x_nmI ev_7 ?_
          refine lv_istore_n (lv' := [(3, .int v_7), (0, .ref x0), (1, .ref x1), (2, .int x2)]) C.1 C.2.1 dX5_hasRightRights_44 rfl hl (by decide) rfl (fun ls hl => ?_)
          refine lv_aload_n C.1 C.2.1 dX5_hasRightRights_45 rfl (lv_at hl 1 rfl) ?_
          obtain ⟨r_8, er_8, hE⟩ := cl_e hE
          refine gf_X5_22 C hW k_x0 er_8 dX5_hasRightRights_46 (fun k_r_8 => ?_)
          refine gf_X5_248 C hW k_r_8 dX5_hasRightRights_49 ?_
          refine lv_iconst (v := (-1 : Int32)) C.1 C.2.1 dX5_hasRightRights_52 (by decide) ?_
          refine lv_icmp_eq (tgt := 88) C.1 C.2.1 dX5_hasRightRights_53 (by decide) (fun c_9 => ?_) (fun c_9 => ?_)
          · have hE := br_p hE c_9
            exact bX5_hasRightRights_88 C hkm hW hZ _ (lv_sub hl [] rfl) hE
          · have hE := br_n hE c_9
            refine lv_iload_n C.1 C.2.1 dX5_hasRightRights_56 rfl (lv_at hl 0 rfl) ?_
            refine lv_iconst (v := (-1 : Int32)) C.1 C.2.1 dX5_hasRightRights_57 (by decide) ?_
            refine lv_icmp_eq (tgt := 88) C.1 C.2.1 dX5_hasRightRights_58 (by decide) (fun c_10 => ?_) (fun c_10 => ?_)
            · have hE := br_p hE c_10
              exact bX5_hasRightRights_88 C hkm hW hZ _ (lv_sub hl [] rfl) hE
            · have hE := br_n hE c_10
              refine lv_iload_n C.1 C.2.1 dX5_hasRightRights_61 rfl (lv_at hl 0 rfl) ?_
              refine lv_iconst (v := (1 : Int32)) C.1 C.2.1 dX5_hasRightRights_62 (by decide) ?_
              refine lv_ishr C.1 C.2.1 dX5_hasRightRights_63 ?_
              refine lv_aload_n C.1 C.2.1 dX5_hasRightRights_64 rfl (lv_at hl 1 rfl) ?_
              obtain ⟨r_11, er_11, hE⟩ := cl_e hE
              refine gf_X5_22 C hW k_x0 er_11 dX5_hasRightRights_65 (fun k_r_11 => ?_)
              refine gf_X5_248 C hW k_r_11 dX5_hasRightRights_68 ?_
              refine lv_icmp_ne (tgt := 88) C.1 C.2.1 dX5_hasRightRights_71 (by decide) (fun c_12 => ?_) (fun c_12 => ?_)
              · have hE := br_n hE c_12
                exact bX5_hasRightRights_88 C hkm hW hZ _ (lv_sub hl [] rfl) hE
              · have hE := br_p hE c_12
                refine lv_aload_n C.1 C.2.1 dX5_hasRightRights_74 rfl (lv_at hl 1 rfl) ?_
                obtain ⟨r_13, er_13, hE⟩ := cl_e hE
                refine gf_X5_22 C hW k_x0 er_13 dX5_hasRightRights_75 (fun k_r_13 => ?_)
                refine lv_iload_n C.1 C.2.1 dX5_hasRightRights_78 rfl (lv_at hl 3 rfl) ?_
                refine lv_iload_n C.1 C.2.1 dX5_hasRightRights_79 rfl (lv_at hl 0 rfl) ?_
                refine lv_iconst (v := (1 : Int32)) C.1 C.2.1 dX5_hasRightRights_80 (by decide) ?_
                refine lv_iand C.1 C.2.1 dX5_hasRightRights_81 ?_
                obtain ⟨o_14, eo_14, hE⟩ := cl_e hE
                refine x_kI (o := o_14) (z_runV (As := [.int x2, .int (v_7 &&& (1 : Int32))]) (rest := []) C (ct_X1_isFirst l X k_r_13 eo_14) cw_X5_332 hW hZ k_r_13 (by decide) rfl rfl rfl hl.1 (Nat.le_of_ble_eq_true rfl) rfl dX5_hasRightRights_82 ⟨Nat.le_of_ble_eq_true rfl, Nat.le_of_ble_eq_true rfl⟩ ⟨Nat.le_refl _, Nat.le_refl _⟩) hZ (fun _ _ hW km hZ => ?_)
                replace hkm := hkm.tr km
                replace k_x0 := km.at k_x0 (by decide)
                replace k_x1 := km.at k_x1 (by decide)
                refine lv_if_ne (tgt := 90) C.1 C.2.1 dX5_hasRightRights_85 (by decide) (fun c_15 => ?_) (fun c_15 => ?_)
                · have hE := br_n hE c_15
                  refine lv_aload_n C.1 C.2.1 dX5_hasRightRights_90 rfl (lv_at hl 2 rfl) ?_
                  obtain ⟨r_16, er_16, hE⟩ := cl_e hE
                  refine gf_X5_60 C hW k_x1 er_16 dX5_hasRightRights_91 (fun k_r_16 => ?_)
                  refine lv_iload_n C.1 C.2.1 dX5_hasRightRights_94 rfl (lv_at hl 0 rfl) ?_
                  refine lv_iconst (v := (1 : Int32)) C.1 C.2.1 dX5_hasRightRights_95 (by decide) ?_
                  refine lv_iand C.1 C.2.1 dX5_hasRightRights_96 ?_
                  obtain ⟨g_17, hE⟩ := gd_e hE
                  refine y_iald C hW k_r_16 g_17 dX5_hasRightRights_97 ?_
                  obtain ⟨v_18, ev_18, hE⟩ := nm_e2 hE
                  refine x_nmI ev_18 ?_
                  refine lv_istore (lv' := [(4, .int v_18), (3, .int v_7), (0, .ref x0), (1, .ref x1), (2, .int x2)]) C.1 C.2.1 dX5_hasRightRights_98 hl (by decide) rfl (fun ls hl => ?_)
                  refine lv_iload C.1 C.2.1 dX5_hasRightRights_100 (lv_at hl 0 rfl) ?_
                  refine lv_iconst (v := (-1 : Int32)) C.1 C.2.1 dX5_hasRightRights_102 (by decide) ?_
                  refine lv_icmp_eq (tgt := 121) C.1 C.2.1 dX5_hasRightRights_103 (by decide) (fun c_19 => ?_) (fun c_19 => ?_)
                  · have hE := br_p hE c_19
                    exact bX5_hasRightRights_121 C hkm hW hZ _ (lv_sub hl [] rfl) hE
                  · have hE := br_n hE c_19
                    refine lv_aload_n C.1 C.2.1 dX5_hasRightRights_106 rfl (lv_at hl 2 rfl) ?_
                    obtain ⟨r_20, er_20, hE⟩ := cl_e hE
                    refine gf_X5_22 C hW k_x0 er_20 dX5_hasRightRights_107 (fun k_r_20 => ?_)
                    refine lv_iload C.1 C.2.1 dX5_hasRightRights_110 (lv_at hl 0 rfl) ?_
                    refine lv_iload_n C.1 C.2.1 dX5_hasRightRights_112 rfl (lv_at hl 1 rfl) ?_
                    refine lv_iconst (v := (1 : Int32)) C.1 C.2.1 dX5_hasRightRights_113 (by decide) ?_
                    refine lv_iand C.1 C.2.1 dX5_hasRightRights_114 ?_
                    obtain ⟨o_21, eo_21, hE⟩ := cl_e hE
                    refine x_kI (o := o_21) (z_runV (As := [.int v_18, .int (v_7 &&& (1 : Int32))]) (rest := []) C (ct_X1_isFirst l X k_r_20 eo_21) cw_X5_332 hW hZ k_r_20 (by decide) rfl rfl rfl hl.1 (Nat.le_of_ble_eq_true rfl) rfl dX5_hasRightRights_115 ⟨Nat.le_of_ble_eq_true rfl, Nat.le_of_ble_eq_true rfl⟩ ⟨Nat.le_refl _, Nat.le_refl _⟩) hZ (fun _ _ hW km hZ => ?_)
                    replace hkm := hkm.tr km
                    replace k_x0 := km.at k_x0 (by decide)
                    replace k_x1 := km.at k_x1 (by decide)
                    refine lv_if_ne (tgt := 123) C.1 C.2.1 dX5_hasRightRights_118 (by decide) (fun c_22 => ?_) (fun c_22 => ?_)
                    · have hE := br_n hE c_22
                      exact bX5_hasRightRights_123 C hk_2 k_x0 k_x1 hkm hW hZ _ (lv_sub hl [2, 3, 4] rfl) hE
                    · have hE := br_p hE c_22
                      exact bX5_hasRightRights_121 C hkm hW hZ _ (lv_sub hl [] rfl) hE
                · have hE := br_p hE c_15
                  exact bX5_hasRightRights_88 C hkm hW hZ _ (lv_sub hl [] rfl) hE
        · have hE := br_p hE c_4
          refine lv_goto (tgt := 123) C.1 C.2.1 dX5_hasRightRights_35 (by decide) ?_
          exact bX5_hasRightRights_123 C hk_2 k_x0 k_x1 hkm hW hZ _ (lv_sub hl [0, 1, 2] rfl) hE
set_option maxRecDepth 20000 in
theorem ct_X5_hasRightRights (l : Launch) (X : Ec) (F : Nat) {h : Hp} {x0 : Nat} {x1 : Nat} {o : Int32 × Hp} (k_x0 : hK h x0 = 5) (k_x1 : hK h x1 = 3) (hE : sX5_hasRightRights F h x0 x1 = some o) : MetI l yX5_hasRightRights cX5_hasRightRights 5 (some .boolean) 2 44 X [.ref x0, .ref x1] h o := by
  refine x_met (by decide) (Nat.le_of_ble_eq_true rfl) ?_
  intro p e s m below meth c ls C hl hW hZ
  have hl : lv_has ls 5 [(0, .ref x0), (1, .ref x1)] := hl
  have hkm : Km h h := Km.rf h
  refine lv_iconst (v := (0 : Int32)) C.1 C.2.1 dX5_hasRightRights_0 (by decide) ?_
  refine lv_istore_n (lv' := [(2, .int (0 : Int32)), (0, .ref x0), (1, .ref x1)]) C.1 C.2.1 dX5_hasRightRights_1 rfl hl (by decide) rfl (fun ls hl => ?_)
  exact bX5_hasRightRights_2 C F k_x0 k_x1 hkm hW hZ _ (lv_sub hl [1, 2, 0] rfl) hE
set_option maxRecDepth 100000 in
theorem m_1054 : Cond.methodLink RX5 173 yX3_passSquare ∈ W0 := w0_in (List.mem_append_right _ (List.mem_of_getElem? (i := 1054) rfl)) rfl
theorem cw_X5_173 : cwd RX5 173 yX3_passSquare cX3_passSquare 2 (some .int) false 1 := ⟨m_1057, m_1054, m_8, ⟨m_1055, m_1056⟩, by decide, by decide, by decide +kernel⟩
theorem dX5_wentOver_0 : decode cX5_wentOver 0 = .ok (.iload_n 2, 1) := by decide +kernel
theorem dX5_wentOver_1 : decode cX5_wentOver 1 = .ok (.ifCond .le 15, 3) := by decide +kernel
theorem dX5_wentOver_4 : decode cX5_wentOver 4 = .ok (.aload_n 0, 1) := by decide +kernel
theorem dX5_wentOver_5 : decode cX5_wentOver 5 = .ok (.iconst 0, 1) := by decide +kernel
theorem dX5_wentOver_6 : decode cX5_wentOver 6 = .ok (.invokevirtual 173, 3) := by decide +kernel
theorem dX5_wentOver_9 : decode cX5_wentOver 9 = .ok (.iload_n 1, 1) := by decide +kernel
theorem dX5_wentOver_10 : decode cX5_wentOver 10 = .ok (.isub, 1) := by decide +kernel
theorem dX5_wentOver_11 : decode cX5_wentOver 11 = .ok (.iload_n 2, 1) := by decide +kernel
theorem dX5_wentOver_12 : decode cX5_wentOver 12 = .ok (.idiv, 1) := by decide +kernel
theorem dX5_wentOver_13 : decode cX5_wentOver 13 = .ok (.goto 4, 3) := by decide +kernel
theorem dX5_wentOver_16 : decode cX5_wentOver 16 = .ok (.iconst 0, 1) := by decide +kernel
theorem dX5_wentOver_17 : decode cX5_wentOver 17 = .ok (.istore_n 3, 1) := by decide +kernel
theorem dX5_wentOver_18 : decode cX5_wentOver 18 = .ok (.iconst 1, 1) := by decide +kernel
theorem dX5_wentOver_19 : decode cX5_wentOver 19 = .ok (.istore 4, 2) := by decide +kernel
theorem dX5_wentOver_21 : decode cX5_wentOver 21 = .ok (.iload 4, 2) := by decide +kernel
theorem dX5_wentOver_23 : decode cX5_wentOver 23 = .ok (.iload_n 2, 1) := by decide +kernel
theorem dX5_wentOver_24 : decode cX5_wentOver 24 = .ok (.if_icmp .ge 26, 3) := by decide +kernel
theorem dX5_wentOver_27 : decode cX5_wentOver 27 = .ok (.aload_n 0, 1) := by decide +kernel
theorem dX5_wentOver_28 : decode cX5_wentOver 28 = .ok (.iload 4, 2) := by decide +kernel
theorem dX5_wentOver_30 : decode cX5_wentOver 30 = .ok (.invokevirtual 173, 3) := by decide +kernel
theorem dX5_wentOver_33 : decode cX5_wentOver 33 = .ok (.iload_n 1, 1) := by decide +kernel
theorem dX5_wentOver_34 : decode cX5_wentOver 34 = .ok (.iload 4, 2) := by decide +kernel
theorem dX5_wentOver_36 : decode cX5_wentOver 36 = .ok (.iload_n 3, 1) := by decide +kernel
theorem dX5_wentOver_37 : decode cX5_wentOver 37 = .ok (.imul, 1) := by decide +kernel
theorem dX5_wentOver_38 : decode cX5_wentOver 38 = .ok (.iadd, 1) := by decide +kernel
theorem dX5_wentOver_39 : decode cX5_wentOver 39 = .ok (.if_icmp .eq 5, 3) := by decide +kernel
theorem dX5_wentOver_42 : decode cX5_wentOver 42 = .ok (.iconst 0, 1) := by decide +kernel
theorem dX5_wentOver_43 : decode cX5_wentOver 43 = .ok (.ireturn, 1) := by decide +kernel
theorem dX5_wentOver_44 : decode cX5_wentOver 44 = .ok (.iinc 4 1, 3) := by decide +kernel
theorem dX5_wentOver_47 : decode cX5_wentOver 47 = .ok (.goto (-26), 3) := by decide +kernel
theorem dX5_wentOver_50 : decode cX5_wentOver 50 = .ok (.iconst 1, 1) := by decide +kernel
theorem dX5_wentOver_51 : decode cX5_wentOver 51 = .ok (.ireturn, 1) := by decide +kernel
set_option maxRecDepth 20000 in
theorem moX5_wentOver_21 {o : Int32 × Hp} {F : Nat} : ∀ (f : Nat) {h : Hp} {x0 : Nat} {x1 : Int32} {x2 : Int32} {x3 : Int32} {x4 : Int32}, sX5_wentOver_21 F f h x0 x1 x2 x3 x4 = some o → Le h o.2 := by
  intro f
  induction f with
  | zero =>
    intro h x0 x1 x2 x3 x4 hE
    rw [sX5_wentOver_21] at hE
    cases hE
  | succ f ih =>
    intro h x0 x1 x2 x3 x4 hE
    rw [sX5_wentOver_21] at hE
    have mk_21 : ∀ (h : Hp) (x0 : Nat) (x1 : Int32) (x2 : Int32) (x3 : Int32) (x4 : Int32), sX5_wentOver_21 F f h x0 x1 x2 x3 x4 = some o → Le h o.2 := fun h x0 x1 x2 x3 x4 hE => ih hE
    rcases br_e hE with ⟨_, hE⟩ | ⟨_, hE⟩
    · exact le_some2 hE
    · obtain ⟨o_2, eo_2, hE⟩ := cl_e hE
      refine (moX3_passSquare eo_2).tr ?_
      rcases br_e hE with ⟨_, hE⟩ | ⟨_, hE⟩
      · obtain ⟨v_4, ev_4, hE⟩ := nm_e2 hE
        exact mk_21 _ _ _ _ _ _ hE
      · exact le_some2 hE
set_option maxRecDepth 20000 in
theorem moX5_wentOver_17 {o : Int32 × Hp} {F : Nat} {h : Hp} {x0 : Nat} {x1 : Int32} {x2 : Int32} {t0 : Int32} (hE : sX5_wentOver_17 F h x0 x1 x2 t0 = some o) : Le h o.2 := by
  exact moX5_wentOver_21 _ hE
set_option maxRecDepth 20000 in
theorem moX5_wentOver {o : Int32 × Hp} {F : Nat} {h : Hp} {x0 : Nat} {x1 : Int32} {x2 : Int32} (hE : sX5_wentOver F h x0 x1 x2 = some o) : Le h o.2 := by
  rcases br_e hE with ⟨_, hE⟩ | ⟨_, hE⟩
  · exact moX5_wentOver_17 hE
  · obtain ⟨o_2, eo_2, hE⟩ := cl_e hE
    refine (moX3_passSquare eo_2).tr ?_
    obtain ⟨g_3, hE⟩ := gd_e hE
    exact moX5_wentOver_17 hE
set_option maxRecDepth 20000 in
theorem bX5_wentOver_21 {p : Program} {l : Launch} {e : Env} {s : State} {m : MethodId} {args : Array Value} {below : List Frame} {meth : Method} {c : Code} {X : Ec} {h0 : Hp} {o : Int32 × Hp} {F : Nat} (C : Cx X p s m args meth c RX5 cX5_wentOver 5 (some .boolean) "wentOver") : ∀ (f : Nat) {h : Hp} {x0 : Nat} {x1 : Int32} {x2 : Int32} {x3 : Int32} {x4 : Int32} {H : Heap} {locs : List Loc} (k_x0 : hK h x0 = 3), Km h0 h → Wx X h H → va_S (aA (eB X)) s.heap H locs → ∀ (ls : Array Slot), lv_has ls 5 [(0, .ref x0), (1, .int x1), (2, .int x2), (3, .int x3), (4, .int x4)] → sX5_wentOver_21 F f h x0 x1 x2 x3 x4 = some o → W p l e (rm 1 21) s m args below meth c H locs 0 0 (MQ below (QI X h0 o.1 o.2) args s 0 0 (aA (eB X))) (F0 m 21 ls []) := by
  intro f
  induction f with
  | zero =>
    intro h x0 x1 x2 x3 x4 H locs k_x0 hkm hW hZ ls hl hE
    rw [sX5_wentOver_21] at hE
    cases hE
  | succ f ih =>
    intro h x0 x1 x2 x3 x4 H locs k_x0 hkm hW hZ ls hl hE
    rw [sX5_wentOver_21] at hE
    have hk_21 : ∀ (h : Hp) (x0 : Nat) (x1 : Int32) (x2 : Int32) (x3 : Int32) (x4 : Int32) (H : Heap) (locs : List Loc), hK h x0 = 3 → Km h0 h → Wx X h H → va_S (aA (eB X)) s.heap H locs → ∀ (ls : Array Slot), lv_has ls 5 [(0, .ref x0), (1, .int x1), (2, .int x2), (3, .int x3), (4, .int x4)] → sX5_wentOver_21 F f h x0 x1 x2 x3 x4 = some o → W p l e (rm 1 21) s m args below meth c H locs 0 0 (MQ below (QI X h0 o.1 o.2) args s 0 0 (aA (eB X))) (F0 m 21 ls []) := fun h x0 x1 x2 x3 x4 H locs k_x0 a b c ls hl hE => ih k_x0 a b c ls hl hE
    refine lv_iload C.1 C.2.1 dX5_wentOver_21 (lv_at hl 4 rfl) ?_
    refine lv_iload_n C.1 C.2.1 dX5_wentOver_23 rfl (lv_at hl 2 rfl) ?_
    refine lv_icmp_ge (tgt := 50) C.1 C.2.1 dX5_wentOver_24 (by decide) (fun c_1 => ?_) (fun c_1 => ?_)
    · have hE := br_p hE c_1
      refine lv_iconst (v := (1 : Int32)) C.1 C.2.1 dX5_wentOver_50 (by decide) ?_
      exact x_iret C rfl (by decide) hW hZ hkm hE dX5_wentOver_51
    · have hE := br_n hE c_1
      refine lv_aload_n C.1 C.2.1 dX5_wentOver_27 rfl (lv_at hl 0 rfl) ?_
      refine lv_iload C.1 C.2.1 dX5_wentOver_28 (lv_at hl 4 rfl) ?_
      obtain ⟨o_2, eo_2, hE⟩ := cl_e hE
      refine x_kI (o := o_2) (z_runV (As := [.int x4]) (rest := []) C (ct_X3_passSquare l X k_x0 eo_2) cw_X5_173 hW hZ k_x0 (by decide) rfl rfl rfl hl.1 (Nat.le_of_ble_eq_true rfl) rfl dX5_wentOver_30 ⟨Nat.le_of_ble_eq_true rfl, Nat.le_of_ble_eq_true rfl⟩ ⟨Nat.le_refl _, Nat.le_refl _⟩) hZ (fun _ _ hW km hZ => ?_)
      replace hkm := hkm.tr km
      replace k_x0 := km.at k_x0 (by decide)
      refine lv_iload_n C.1 C.2.1 dX5_wentOver_33 rfl (lv_at hl 1 rfl) ?_
      refine lv_iload C.1 C.2.1 dX5_wentOver_34 (lv_at hl 4 rfl) ?_
      refine lv_iload_n C.1 C.2.1 dX5_wentOver_36 rfl (lv_at hl 3 rfl) ?_
      refine lv_imul C.1 C.2.1 dX5_wentOver_37 ?_
      refine lv_iadd C.1 C.2.1 dX5_wentOver_38 ?_
      refine lv_icmp_eq (tgt := 44) C.1 C.2.1 dX5_wentOver_39 (by decide) (fun c_3 => ?_) (fun c_3 => ?_)
      · have hE := br_p hE c_3
        obtain ⟨v_4, ev_4, hE⟩ := nm_e2 hE
        refine lv_iinc (v := v_4) (lv' := [(4, .int v_4), (0, .ref x0), (1, .int x1), (2, .int x2), (3, .int x3)]) C.1 C.2.1 dX5_wentOver_44 hl (k := 4) rfl (by rw [ev_4]; rfl) (by decide) rfl (fun ls hl => ?_)
        refine lv_goto (tgt := 21) C.1 C.2.1 dX5_wentOver_47 (by decide) ?_
        exact hk_21 _ _ _ _ _ _ _ _ k_x0 hkm hW hZ _ (lv_sub hl [1, 2, 3, 4, 0] rfl) hE
      · have hE := br_n hE c_3
        refine lv_iconst (v := (0 : Int32)) C.1 C.2.1 dX5_wentOver_42 (by decide) ?_
        exact x_iret C rfl (by decide) hW hZ hkm hE dX5_wentOver_43
set_option maxRecDepth 20000 in
theorem bX5_wentOver_17 {p : Program} {l : Launch} {e : Env} {s : State} {m : MethodId} {args : Array Value} {below : List Frame} {meth : Method} {c : Code} {X : Ec} {h0 : Hp} {o : Int32 × Hp} {F : Nat} (C : Cx X p s m args meth c RX5 cX5_wentOver 5 (some .boolean) "wentOver") {h : Hp} {x0 : Nat} {x1 : Int32} {x2 : Int32} {t0 : Int32} {H : Heap} {locs : List Loc} (k_x0 : hK h x0 = 3) (hkm : Km h0 h) (hW : Wx X h H) (hZ : va_S (aA (eB X)) s.heap H locs) (ls : Array Slot) (hl : lv_has ls 5 [(0, .ref x0), (1, .int x1), (2, .int x2)]) (hE : sX5_wentOver_17 F h x0 x1 x2 t0 = some o) : W p l e (rm 1 21) s m args below meth c H locs 0 0 (MQ below (QI X h0 o.1 o.2) args s 0 0 (aA (eB X))) (F0 m 17 ls [.int t0]) := by
  refine lv_istore_n (lv' := [(3, .int t0), (0, .ref x0), (1, .int x1), (2, .int x2)]) C.1 C.2.1 dX5_wentOver_17 rfl hl (by decide) rfl (fun ls hl => ?_)
  refine lv_iconst (v := (1 : Int32)) C.1 C.2.1 dX5_wentOver_18 (by decide) ?_
  refine lv_istore (lv' := [(4, .int (1 : Int32)), (3, .int t0), (0, .ref x0), (1, .int x1), (2, .int x2)]) C.1 C.2.1 dX5_wentOver_19 hl (by decide) rfl (fun ls hl => ?_)
  exact bX5_wentOver_21 C F k_x0 hkm hW hZ _ (lv_sub hl [2, 3, 4, 1, 0] rfl) hE
set_option maxRecDepth 20000 in
theorem ct_X5_wentOver (l : Launch) (X : Ec) (F : Nat) {h : Hp} {x0 : Nat} {x1 : Int32} {x2 : Int32} {o : Int32 × Hp} (k_x0 : hK h x0 = 3) (hE : sX5_wentOver F h x0 x1 x2 = some o) : MetI l yX5_wentOver cX5_wentOver 5 (some .boolean) 1 21 X [.ref x0, .int x1, .int x2] h o := by
  refine x_met (by decide) (Nat.le_of_ble_eq_true rfl) ?_
  intro p e s m below meth c ls C hl hW hZ
  have hl : lv_has ls 5 [(0, .ref x0), (1, .int x1), (2, .int x2)] := hl
  have hkm : Km h h := Km.rf h
  refine lv_iload_n C.1 C.2.1 dX5_wentOver_0 rfl (lv_at hl 2 rfl) ?_
  refine lv_if_le (tgt := 16) C.1 C.2.1 dX5_wentOver_1 (by decide) (fun c_1 => ?_) (fun c_1 => ?_)
  · have hE := br_p hE c_1
    refine lv_iconst (v := (0 : Int32)) C.1 C.2.1 dX5_wentOver_16 (by decide) ?_
    exact bX5_wentOver_17 C k_x0 hkm hW hZ _ (lv_sub hl [0, 1, 2] rfl) hE
  · have hE := br_n hE c_1
    refine lv_aload_n C.1 C.2.1 dX5_wentOver_4 rfl (lv_at hl 0 rfl) ?_
    refine lv_iconst (v := (0 : Int32)) C.1 C.2.1 dX5_wentOver_5 (by decide) ?_
    obtain ⟨o_2, eo_2, hE⟩ := cl_e hE
    refine x_kI (o := o_2) (z_runV (As := [.int (0 : Int32)]) (rest := []) C (ct_X3_passSquare l X k_x0 eo_2) cw_X5_173 hW hZ k_x0 (by decide) rfl rfl rfl hl.1 (Nat.le_of_ble_eq_true rfl) rfl dX5_wentOver_6 ⟨Nat.le_of_ble_eq_true rfl, Nat.le_of_ble_eq_true rfl⟩ ⟨Nat.le_refl _, Nat.le_refl _⟩) hZ (fun _ _ hW km hZ => ?_)
    replace hkm := hkm.tr km
    replace k_x0 := km.at k_x0 (by decide)
    refine lv_iload_n C.1 C.2.1 dX5_wentOver_9 rfl (lv_at hl 1 rfl) ?_
    refine lv_isub C.1 C.2.1 dX5_wentOver_10 ?_
    refine lv_iload_n C.1 C.2.1 dX5_wentOver_11 rfl (lv_at hl 2 rfl) ?_
    obtain ⟨g_3, hE⟩ := gd_e hE
    refine lv_idiv C.1 C.2.1 dX5_wentOver_12 g_3 ?_
    refine lv_goto (tgt := 17) C.1 C.2.1 dX5_wentOver_13 (by decide) ?_
    exact bX5_wentOver_17 C k_x0 hkm hW hZ _ (lv_sub hl [0, 1, 2] rfl) hE
