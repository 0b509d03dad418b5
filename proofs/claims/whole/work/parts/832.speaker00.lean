set_option maxRecDepth 100000 in
theorem m_35 : Cond.instantiable RX9 2 ∈ W0 := w0_in (List.mem_append_right _ (List.mem_of_getElem? (i := 35) rfl)) rfl
set_option maxRecDepth 100000 in
theorem m_37 : Cond.instanceMethod yX9_init ∈ W0 := w0_in (List.mem_append_right _ (List.mem_of_getElem? (i := 37) rfl)) rfl
set_option maxRecDepth 100000 in
theorem m_38 : Cond.code yX9_init cX9_init 2 none ∈ W0 := w0_in (List.mem_append_right _ (List.mem_of_getElem? (i := 38) rfl)) rfl
set_option maxRecDepth 100000 in
theorem m_397 : Cond.methodLink RX8 3 objectInit ∈ W0 := w0_in (List.mem_append_right _ (List.mem_of_getElem? (i := 397) rfl)) rfl
set_option maxRecDepth 100000 in
theorem m_398 : Cond.classLink RX8 9 RX3 ∈ W0 := w0_in (List.mem_append_right _ (List.mem_of_getElem? (i := 398) rfl)) rfl
set_option maxRecDepth 100000 in
theorem m_399 : Cond.methodLink RX8 11 yX3_init ∈ W0 := w0_in (List.mem_append_right _ (List.mem_of_getElem? (i := 399) rfl)) rfl
set_option maxRecDepth 100000 in
theorem m_400 : Cond.classLink RX8 18 RX9 ∈ W0 := w0_in (List.mem_append_right _ (List.mem_of_getElem? (i := 400) rfl)) rfl
set_option maxRecDepth 100000 in
theorem m_401 : Cond.methodLink RX8 20 yX9_init ∈ W0 := w0_in (List.mem_append_right _ (List.mem_of_getElem? (i := 401) rfl)) rfl
set_option maxRecDepth 100000 in
theorem m_402 : Cond.fieldLink RX8 27 (TX8 0).1 (TX8 0).2.1 (TX8 0).2.2.1 ∈ W0 := w0_in (List.mem_append_right _ (List.mem_of_getElem? (i := 402) rfl)) rfl
set_option maxRecDepth 100000 in
theorem m_403 : Cond.fieldLink RX8 31 (TX8 1).1 (TX8 1).2.1 (TX8 1).2.2.1 ∈ W0 := w0_in (List.mem_append_right _ (List.mem_of_getElem? (i := 403) rfl)) rfl
set_option maxRecDepth 100000 in
theorem m_404 : Cond.fieldLink RX8 12 (TX8 2).1 (TX8 2).2.1 (TX8 2).2.2.1 ∈ W0 := w0_in (List.mem_append_right _ (List.mem_of_getElem? (i := 404) rfl)) rfl
set_option maxRecDepth 100000 in
theorem m_405 : Cond.fieldLink RX8 23 (TX8 3).1 (TX8 3).2.1 (TX8 3).2.2.1 ∈ W0 := w0_in (List.mem_append_right _ (List.mem_of_getElem? (i := 405) rfl)) rfl
theorem i_X8 : ∀ w ∈ u_ws RX8 TX8 4, w ∈ W0 := by
  intro w hw
  exact w0_in (List.mem_append_right _ ((by decide +kernel : ∀ w ∈ u_ws RX8 TX8 4, w ∈ tables_1) w hw)) ((by decide +kernel : ∀ w ∈ u_ws RX8 TX8 4, goodWord w = true) w hw)
theorem dv_X9 : ∀ j, j < 2 → defaultValue (tyX9 j) = dV ((tl 9).getD j 2) := by decide +kernel
section
variable {p : Program} {l : Launch} {e : Env} {R : Room} {s : State} {m : MethodId} {args : Array Value} {below : List Frame} {meth : Method} {c : Code} {H : Heap} {locs : List Loc} {cells slots : Nat} {Q : State → Prop}
variable {cc : ByteArray} {pc : Nat} {ls : Array Slot} {rest : List Value} {X : Ec} {h h1 : Hp} {nL : Nat} {rt : Option FieldType} {mn : String}
theorem pf_X8_23 {a r : Nat} (C : Cx X p s m args meth c RX8 cc nL rt mn) (hW : Wx X h H) (hZ : va_S (aA (eB X)) s.heap H locs) (hmn : mn = "<init>") (ha : hK h a = 8) (hr : hK h r = 9) (eh : h1 = wR h a 3 (some r)) (hdg : decode cc pc = .ok (.putfield 23, 3)) (kk : ∀ (H1 : Heap) (locs1 : List Loc), Wx X h1 H1 → Km h h1 → va_S (aA (eB X)) s.heap H1 locs1 → W p l e R s m args below meth c H1 locs1 cells slots Q (F0 m (pc + 3) ls rest)) : W p l e R s m args below meth c H locs cells slots Q (F0 m pc ls (.ref r :: .ref a :: rest)) :=
  y_putrF (ty := .object "GameRules$Text") C hW hZ ha i_X8 tyX8 tyX8_ok nmX8 (by decide) rfl rfl (by decide) m_405 rfl hmn rfl (by decide +kernel) rfl rfl rfl hr rfl (by decide) eh hdg kk
theorem pf_X8_27 {a r : Nat} (C : Cx X p s m args meth c RX8 cc nL rt mn) (hW : Wx X h H) (hZ : va_S (aA (eB X)) s.heap H locs) (hmn : mn = "<init>") (ha : hK h a = 8) (hr : hK h r = 1) (eh : h1 = wR h a 0 (some r)) (hdg : decode cc pc = .ok (.putfield 27, 3)) (kk : ∀ (H1 : Heap) (locs1 : List Loc), Wx X h1 H1 → Km h h1 → va_S (aA (eB X)) s.heap H1 locs1 → W p l e R s m args below meth c H1 locs1 cells slots Q (F0 m (pc + 3) ls rest)) : W p l e R s m args below meth c H locs cells slots Q (F0 m pc ls (.ref r :: .ref a :: rest)) :=
  y_putrF (ty := .object "GameRules$Law") C hW hZ ha i_X8 tyX8 tyX8_ok nmX8 (by decide) rfl rfl (by decide) m_402 rfl hmn rfl (by decide +kernel) rfl rfl rfl hr rfl (by decide) eh hdg kk
theorem pf_X8_31 {a r : Nat} (C : Cx X p s m args meth c RX8 cc nL rt mn) (hW : Wx X h H) (hZ : va_S (aA (eB X)) s.heap H locs) (hmn : mn = "<init>") (ha : hK h a = 8) (hr : hK h r = 5) (eh : h1 = wR h a 1 (some r)) (hdg : decode cc pc = .ok (.putfield 31, 3)) (kk : ∀ (H1 : Heap) (locs1 : List Loc), Wx X h1 H1 → Km h h1 → va_S (aA (eB X)) s.heap H1 locs1 → W p l e R s m args below meth c H1 locs1 cells slots Q (F0 m (pc + 3) ls rest)) : W p l e R s m args below meth c H locs cells slots Q (F0 m pc ls (.ref r :: .ref a :: rest)) :=
  y_putrF (ty := .object "GameRules$Referee") C hW hZ ha i_X8 tyX8 tyX8_ok nmX8 (by decide) rfl rfl (by decide) m_403 rfl hmn rfl (by decide +kernel) rfl rfl rfl hr rfl (by decide) eh hdg kk
theorem pf_X8_12 {a r : Nat} (C : Cx X p s m args meth c RX8 cc nL rt mn) (hW : Wx X h H) (hZ : va_S (aA (eB X)) s.heap H locs) (hmn : mn = "<init>") (ha : hK h a = 8) (hr : hK h r = 3) (eh : h1 = wR h a 2 (some r)) (hdg : decode cc pc = .ok (.putfield 12, 3)) (kk : ∀ (H1 : Heap) (locs1 : List Loc), Wx X h1 H1 → Km h h1 → va_S (aA (eB X)) s.heap H1 locs1 → W p l e R s m args below meth c H1 locs1 cells slots Q (F0 m (pc + 3) ls rest)) : W p l e R s m args below meth c H locs cells slots Q (F0 m pc ls (.ref r :: .ref a :: rest)) :=
  y_putrF (ty := .object "GameRules$Position") C hW hZ ha i_X8 tyX8 tyX8_ok nmX8 (by decide) rfl rfl (by decide) m_404 rfl hmn rfl (by decide +kernel) rfl rfl rfl hr rfl (by decide) eh hdg kk
end
theorem ci_X8_20 : cwi RX8 20 yX9_init cX9_init 2 1 := ⟨m_38, m_401, m_2, m_37, rfl, by decide, by decide, by decide +kernel⟩
theorem ci_X8_11 : cwi RX8 11 yX3_init cX3_init 1 0 := ⟨m_269, m_399, m_8, m_268, rfl, by decide, by decide, by decide +kernel⟩
theorem dX8_init_0 : decode cX8_init 0 = .ok (.aload_n 0, 1) := by decide +kernel
theorem dX8_init_1 : decode cX8_init 1 = .ok (.invokespecial 3, 3) := by decide +kernel
theorem dX8_init_4 : decode cX8_init 4 = .ok (.aload_n 0, 1) := by decide +kernel
theorem dX8_init_5 : decode cX8_init 5 = .ok (.new 9, 3) := by decide +kernel
theorem dX8_init_8 : decode cX8_init 8 = .ok (.dup, 1) := by decide +kernel
theorem dX8_init_9 : decode cX8_init 9 = .ok (.invokespecial 11, 3) := by decide +kernel
theorem dX8_init_12 : decode cX8_init 12 = .ok (.putfield 12, 3) := by decide +kernel
theorem dX8_init_15 : decode cX8_init 15 = .ok (.aload_n 0, 1) := by decide +kernel
theorem dX8_init_16 : decode cX8_init 16 = .ok (.new 18, 3) := by decide +kernel
theorem dX8_init_19 : decode cX8_init 19 = .ok (.dup, 1) := by decide +kernel
theorem dX8_init_20 : decode cX8_init 20 = .ok (.bipush 16, 2) := by decide +kernel
theorem dX8_init_22 : decode cX8_init 22 = .ok (.invokespecial 20, 3) := by decide +kernel
theorem dX8_init_25 : decode cX8_init 25 = .ok (.putfield 23, 3) := by decide +kernel
theorem dX8_init_28 : decode cX8_init 28 = .ok (.aload_n 0, 1) := by decide +kernel
theorem dX8_init_29 : decode cX8_init 29 = .ok (.aload_n 1, 1) := by decide +kernel
theorem dX8_init_30 : decode cX8_init 30 = .ok (.putfield 27, 3) := by decide +kernel
theorem dX8_init_33 : decode cX8_init 33 = .ok (.aload_n 0, 1) := by decide +kernel
theorem dX8_init_34 : decode cX8_init 34 = .ok (.aload_n 2, 1) := by decide +kernel
theorem dX8_init_35 : decode cX8_init 35 = .ok (.putfield 31, 3) := by decide +kernel
theorem dX8_init_38 : decode cX8_init 38 = .ok (.return_, 1) := by decide +kernel
set_option maxRecDepth 20000 in
theorem moX8_init_25 {o : Hp} {F : Nat} {h : Hp} {x0 : Nat} {x1 : Nat} {x2 : Nat} {t0 : Nat} {t1 : Nat} (hE : sX8_init_25 F h x0 x1 x2 t0 t1 = some o) : Le h o := by
  obtain ⟨h_1, eh_1, hE⟩ := nm_e2 hE
  refine (le_R eh_1).tr ?_
  obtain ⟨h_2, eh_2, hE⟩ := nm_e2 hE
  refine (le_R eh_2).tr ?_
  obtain ⟨h_3, eh_3, hE⟩ := nm_e2 hE
  refine (le_R eh_3).tr ?_
  exact le_some1 hE
set_option maxRecDepth 20000 in
theorem moX8_init_19 {o : Hp} {F : Nat} {h : Hp} {x0 : Nat} {x1 : Nat} {x2 : Nat} {t0 : Nat} {t1 : Nat} (hE : sX8_init_19 F h x0 x1 x2 t0 t1 = some o) : Le h o := by
  obtain ⟨o_1, eo_1, hE⟩ := cl_e hE
  refine (moX9_init eo_1).tr ?_
  exact moX8_init_25 hE
set_option maxRecDepth 20000 in
theorem moX8_init_12 {o : Hp} {F : Nat} {h : Hp} {x0 : Nat} {x1 : Nat} {x2 : Nat} {t0 : Nat} {t1 : Nat} (hE : sX8_init_12 F h x0 x1 x2 t0 t1 = some o) : Le h o := by
  obtain ⟨h_1, eh_1, hE⟩ := nm_e2 hE
  refine (le_R eh_1).tr ?_
  obtain ⟨a_2, ea_2, hE⟩ := nm_e2 hE
  obtain ⟨h_3, eh_3, hE⟩ := nm_e2 hE
  refine (le_C eh_3).tr ?_
  exact moX8_init_19 hE
set_option maxRecDepth 20000 in
theorem moX8_init_8 {o : Hp} {F : Nat} {h : Hp} {x0 : Nat} {x1 : Nat} {x2 : Nat} {t0 : Nat} {t1 : Nat} (hE : sX8_init_8 F h x0 x1 x2 t0 t1 = some o) : Le h o := by
  obtain ⟨o_1, eo_1, hE⟩ := cl_e hE
  refine (moX3_init eo_1).tr ?_
  exact moX8_init_12 hE
set_option maxRecDepth 20000 in
theorem moX8_init {o : Hp} {F : Nat} {h : Hp} {x0 : Nat} {x1 : Nat} {x2 : Nat} (hE : sX8_init F h x0 x1 x2 = some o) : Le h o := by
  obtain ⟨a_1, ea_1, hE⟩ := nm_e2 hE
  obtain ⟨h_2, eh_2, hE⟩ := nm_e2 hE
  refine (le_C eh_2).tr ?_
  exact moX8_init_8 hE
set_option maxRecDepth 20000 in
theorem bX8_init_25 {p : Program} {l : Launch} {e : Env} {s : State} {m : MethodId} {args : Array Value} {below : List Frame} {meth : Method} {c : Code} {X : Ec} {h0 : Hp} {o : Hp} {F : Nat} (C : Cx X p s m args meth c RX8 cX8_init 3 none "<init>") {h : Hp} {x0 : Nat} {x1 : Nat} {x2 : Nat} {t0 : Nat} {t1 : Nat} {H : Heap} {locs : List Loc} (k_x0 : hK h x0 = 8) (k_x1 : hK h x1 = 1) (k_x2 : hK h x2 = 5) (k_t0 : hK h t0 = 9) (k_t1 : hK h t1 = 8) (hkl : Kl h0 h) (hW : Wx X h H) (hZ : va_S (aA (eB X)) s.heap H locs) (ls : Array Slot) (hl : lv_has ls 3 [(0, .ref x0), (1, .ref x1), (2, .ref x2)]) (hE : sX8_init_25 F h x0 x1 x2 t0 t1 = some o) : W p l e (rmA 2 45 h0 o) s m args below meth c H locs (hS h - hS h0) (hL h - hL h0) (MQ below (QVA X h0 o) args s (hS o - hS h0) (hL o - hL h0) (aA (eB X))) (F0 m 25 ls [.ref t0, .ref t1]) := by
  obtain ⟨h_1, eh_1, hE⟩ := nm_e2 hE
  refine pf_X8_23 C hW hZ rfl k_t1 k_t0 eh_1 dX8_init_25 (fun _ _ hW km hZ => ?_)
  replace hkl := hkl.tr km.l
  refine x_wc km ?_
  replace k_x0 := km.at k_x0 (by decide)
  replace k_x1 := km.at k_x1 (by decide)
  replace k_x2 := km.at k_x2 (by decide)
  refine lv_aload_n C.1 C.2.1 dX8_init_28 rfl (lv_at hl 0 rfl) ?_
  refine lv_aload_n C.1 C.2.1 dX8_init_29 rfl (lv_at hl 1 rfl) ?_
  obtain ⟨h_2, eh_2, hE⟩ := nm_e2 hE
  refine pf_X8_27 C hW hZ rfl k_x0 k_x1 eh_2 dX8_init_30 (fun _ _ hW km hZ => ?_)
  replace hkl := hkl.tr km.l
  refine x_wc km ?_
  replace k_x0 := km.at k_x0 (by decide)
  replace k_x1 := km.at k_x1 (by decide)
  replace k_x2 := km.at k_x2 (by decide)
  refine lv_aload_n C.1 C.2.1 dX8_init_33 rfl (lv_at hl 0 rfl) ?_
  refine lv_aload_n C.1 C.2.1 dX8_init_34 rfl (lv_at hl 2 rfl) ?_
  obtain ⟨h_3, eh_3, hE⟩ := nm_e2 hE
  refine pf_X8_31 C hW hZ rfl k_x0 k_x2 eh_3 dX8_init_35 (fun _ _ hW km hZ => ?_)
  replace hkl := hkl.tr km.l
  refine x_wc km ?_
  replace k_x0 := km.at k_x0 (by decide)
  replace k_x1 := km.at k_x1 (by decide)
  replace k_x2 := km.at k_x2 (by decide)
  exact x_vretA C rfl hW hZ hkl hE dX8_init_38
set_option maxRecDepth 20000 in
theorem bX8_init_19 {p : Program} {l : Launch} {e : Env} {s : State} {m : MethodId} {args : Array Value} {below : List Frame} {meth : Method} {c : Code} {X : Ec} {h0 : Hp} {o : Hp} {F : Nat} (C : Cx X p s m args meth c RX8 cX8_init 3 none "<init>") {h : Hp} {x0 : Nat} {x1 : Nat} {x2 : Nat} {t0 : Nat} {t1 : Nat} {H : Heap} {locs : List Loc} (k_x0 : hK h x0 = 8) (k_x1 : hK h x1 = 1) (k_x2 : hK h x2 = 5) (k_t0 : hK h t0 = 9) (k_t1 : hK h t1 = 8) (hkl : Kl h0 h) (hW : Wx X h H) (hZ : va_S (aA (eB X)) s.heap H locs) (ls : Array Slot) (hl : lv_has ls 3 [(0, .ref x0), (1, .ref x1), (2, .ref x2)]) (hE : sX8_init_19 F h x0 x1 x2 t0 t1 = some o) : W p l e (rmA 2 45 h0 o) s m args below meth c H locs (hS h - hS h0) (hL h - hL h0) (MQ below (QVA X h0 o) args s (hS o - hS h0) (hL o - hL h0) (aA (eB X))) (F0 m 19 ls [.ref t0, .ref t1]) := by
  refine lv_dup C.1 C.2.1 dX8_init_19 rfl ?_
  refine lv_bipush (v := (16 : Int32)) C.1 C.2.1 dX8_init_20 (by decide) ?_
  obtain ⟨o_1, eo_1, hE⟩ := cl_e hE
  have m1 := moX9_init eo_1
  have m2 := moX8_init_25 hE
  refine x_kVA (o := o_1) hkl (z_runI (As := [.int (16 : Int32)]) (rest := [.ref t0, .ref t1]) C (ct_X9_init l X k_t0 eo_1) ci_X8_20 hW hZ rfl hl.1 (Nat.le_of_ble_eq_true rfl) rfl dX8_init_22 ⟨Nat.le_of_ble_eq_true rfl, Nat.le_of_ble_eq_true rfl⟩ (rm_ok hkl m1 m2)) hZ (fun _ _ hW km hZ => ?_)
  replace hkl := hkl.tr km
  replace k_x0 := km.at k_x0 (by decide)
  replace k_x1 := km.at k_x1 (by decide)
  replace k_x2 := km.at k_x2 (by decide)
  replace k_t0 := km.at k_t0 (by decide)
  replace k_t1 := km.at k_t1 (by decide)
  exact bX8_init_25 C k_x0 k_x1 k_x2 k_t0 k_t1 hkl hW hZ _ (lv_sub hl [0, 1, 2] rfl) hE
set_option maxRecDepth 20000 in
theorem bX8_init_12 {p : Program} {l : Launch} {e : Env} {s : State} {m : MethodId} {args : Array Value} {below : List Frame} {meth : Method} {c : Code} {X : Ec} {h0 : Hp} {o : Hp} {F : Nat} (C : Cx X p s m args meth c RX8 cX8_init 3 none "<init>") {h : Hp} {x0 : Nat} {x1 : Nat} {x2 : Nat} {t0 : Nat} {t1 : Nat} {H : Heap} {locs : List Loc} (k_x0 : hK h x0 = 8) (k_x1 : hK h x1 = 1) (k_x2 : hK h x2 = 5) (k_t0 : hK h t0 = 3) (k_t1 : hK h t1 = 8) (hkl : Kl h0 h) (hW : Wx X h H) (hZ : va_S (aA (eB X)) s.heap H locs) (ls : Array Slot) (hl : lv_has ls 3 [(0, .ref x0), (1, .ref x1), (2, .ref x2)]) (hE : sX8_init_12 F h x0 x1 x2 t0 t1 = some o) : W p l e (rmA 2 45 h0 o) s m args below meth c H locs (hS h - hS h0) (hL h - hL h0) (MQ below (QVA X h0 o) args s (hS o - hS h0) (hL o - hL h0) (aA (eB X))) (F0 m 12 ls [.ref t0, .ref t1]) := by
  obtain ⟨h_1, eh_1, hE⟩ := nm_e2 hE
  refine pf_X8_12 C hW hZ rfl k_t1 k_t0 eh_1 dX8_init_12 (fun _ _ hW km hZ => ?_)
  replace hkl := hkl.tr km.l
  refine x_wc km ?_
  replace k_x0 := km.at k_x0 (by decide)
  replace k_x1 := km.at k_x1 (by decide)
  replace k_x2 := km.at k_x2 (by decide)
  refine lv_aload_n C.1 C.2.1 dX8_init_15 rfl (lv_at hl 0 rfl) ?_
  obtain ⟨a_2, ea_2, hE⟩ := nm_e2 hE
  obtain ⟨h_3, eh_3, hE⟩ := nm_e2 hE
  refine y_new C hW hZ hkl (moX8_init_19 hE) ⟨rfl, rfl⟩ i_X9 tyX9 tyX9_ok (by decide) rfl rfl dv_X9 m_400 m_35 m_2 eh_3 dX8_init_16 (fun _ hW km k_a_2 hZ => ?_)
  replace hkl := hkl.tr km
  refine x_nmA ea_2 ?_
  rw [← ea_2] at k_a_2
  replace k_x0 := km.at k_x0 (by decide)
  replace k_x1 := km.at k_x1 (by decide)
  replace k_x2 := km.at k_x2 (by decide)
  exact bX8_init_19 C k_x0 k_x1 k_x2 k_a_2 k_x0 hkl hW hZ _ (lv_sub hl [0, 1, 2] rfl) hE
set_option maxRecDepth 20000 in
theorem bX8_init_8 {p : Program} {l : Launch} {e : Env} {s : State} {m : MethodId} {args : Array Value} {below : List Frame} {meth : Method} {c : Code} {X : Ec} {h0 : Hp} {o : Hp} {F : Nat} (C : Cx X p s m args meth c RX8 cX8_init 3 none "<init>") {h : Hp} {x0 : Nat} {x1 : Nat} {x2 : Nat} {t0 : Nat} {t1 : Nat} {H : Heap} {locs : List Loc} (k_x0 : hK h x0 = 8) (k_x1 : hK h x1 = 1) (k_x2 : hK h x2 = 5) (k_t0 : hK h t0 = 3) (k_t1 : hK h t1 = 8) (hkl : Kl h0 h) (hW : Wx X h H) (hZ : va_S (aA (eB X)) s.heap H locs) (ls : Array Slot) (hl : lv_has ls 3 [(0, .ref x0), (1, .ref x1), (2, .ref x2)]) (hE : sX8_init_8 F h x0 x1 x2 t0 t1 = some o) : W p l e (rmA 2 45 h0 o) s m args below meth c H locs (hS h - hS h0) (hL h - hL h0) (MQ below (QVA X h0 o) args s (hS o - hS h0) (hL o - hL h0) (aA (eB X))) (F0 m 8 ls [.ref t0, .ref t1]) := by
  refine lv_dup C.1 C.2.1 dX8_init_8 rfl ?_
  obtain ⟨o_1, eo_1, hE⟩ := cl_e hE
  have m1 := moX3_init eo_1
  have m2 := moX8_init_12 hE
  refine x_kVA (o := o_1) hkl (z_runI (As := []) (rest := [.ref t0, .ref t1]) C (ct_X3_init l X F k_t0 eo_1) ci_X8_11 hW hZ rfl hl.1 (Nat.le_of_ble_eq_true rfl) rfl dX8_init_9 ⟨Nat.le_of_ble_eq_true rfl, Nat.le_of_ble_eq_true rfl⟩ (rm_ok hkl m1 m2)) hZ (fun _ _ hW km hZ => ?_)
  replace hkl := hkl.tr km
  replace k_x0 := km.at k_x0 (by decide)
  replace k_x1 := km.at k_x1 (by decide)
  replace k_x2 := km.at k_x2 (by decide)
  replace k_t0 := km.at k_t0 (by decide)
  replace k_t1 := km.at k_t1 (by decide)
  exact bX8_init_12 C k_x0 k_x1 k_x2 k_t0 k_t1 hkl hW hZ _ (lv_sub hl [0, 1, 2] rfl) hE
set_option maxRecDepth 20000 in
theorem ct_X8_init (l : Launch) (X : Ec) (F : Nat) {h : Hp} {x0 : Nat} {x1 : Nat} {x2 : Nat} {o : Hp} (k_x0 : hK h x0 = 8) (k_x1 : hK h x1 = 1) (k_x2 : hK h x2 = 5) (hE : sX8_init F h x0 x1 x2 = some o) : MetVA l yX8_init cX8_init 3 none 2 45 X [.ref x0, .ref x1, .ref x2] h o := by
  refine x_metA (oh := o) (by decide) (Nat.le_of_ble_eq_true rfl) ?_
  intro p e s m below meth c ls C hl hW hZ
  have hl : lv_has ls 3 [(0, .ref x0), (1, .ref x1), (2, .ref x2)] := hl
  have hkl : Kl h h := Kl.rf h
  refine lv_aload_n C.1 C.2.1 dX8_init_0 rfl (lv_at hl 0 rfl) ?_
  refine W.objInit C.1 C.2.1 C.2.2.2.1 (C.2.2.2.2.1 _ m_397) (C.2.2.2.2.1 _ m_32) (C.2.2.2.2.1 _ m_33) rfl (by rw [C.2.2.1]; exact hl.1) rfl dX8_init_1 (Nat.le_of_ble_eq_true rfl) (Nat.le_of_ble_eq_true rfl) ?_
  refine W.eq (g2 := F0 m 4 ls []) rfl ?_
  refine lv_aload_n C.1 C.2.1 dX8_init_4 rfl (lv_at hl 0 rfl) ?_
  obtain ⟨a_1, ea_1, hE⟩ := nm_e2 hE
  obtain ⟨h_2, eh_2, hE⟩ := nm_e2 hE
  refine y_new C hW hZ hkl (moX8_init_8 hE) ⟨rfl, rfl⟩ i_X3 tyX3 tyX3_ok (by decide) rfl rfl dv_X3 m_398 m_266 m_8 eh_2 dX8_init_5 (fun _ hW km k_a_1 hZ => ?_)
  replace hkl := hkl.tr km
  refine x_nmA ea_1 ?_
  rw [← ea_1] at k_a_1
  replace k_x0 := km.at k_x0 (by decide)
  replace k_x1 := km.at k_x1 (by decide)
  replace k_x2 := km.at k_x2 (by decide)
  exact bX8_init_8 C k_x0 k_x1 k_x2 k_a_1 k_x0 hkl hW hZ _ (lv_sub hl [0, 1, 2] rfl) hE
set_option maxRecDepth 100000 in
theorem m_420 : Cond.methodLink RX6 3 objectInit ∈ W0 := w0_in (List.mem_append_right _ (List.mem_of_getElem? (i := 420) rfl)) rfl
set_option maxRecDepth 100000 in
theorem m_421 : Cond.classLink RX6 9 RX3 ∈ W0 := w0_in (List.mem_append_right _ (List.mem_of_getElem? (i := 421) rfl)) rfl
set_option maxRecDepth 100000 in
theorem m_422 : Cond.methodLink RX6 11 yX3_init ∈ W0 := w0_in (List.mem_append_right _ (List.mem_of_getElem? (i := 422) rfl)) rfl
set_option maxRecDepth 100000 in
theorem m_423 : Cond.fieldLink RX6 25 (TX6 0).1 (TX6 0).2.1 (TX6 0).2.2.1 ∈ W0 := w0_in (List.mem_append_right _ (List.mem_of_getElem? (i := 423) rfl)) rfl
set_option maxRecDepth 100000 in
theorem m_424 : Cond.fieldLink RX6 29 (TX6 1).1 (TX6 1).2.1 (TX6 1).2.2.1 ∈ W0 := w0_in (List.mem_append_right _ (List.mem_of_getElem? (i := 424) rfl)) rfl
set_option maxRecDepth 100000 in
theorem m_425 : Cond.fieldLink RX6 33 (TX6 2).1 (TX6 2).2.1 (TX6 2).2.2.1 ∈ W0 := w0_in (List.mem_append_right _ (List.mem_of_getElem? (i := 425) rfl)) rfl
set_option maxRecDepth 100000 in
theorem m_426 : Cond.fieldLink RX6 12 (TX6 3).1 (TX6 3).2.1 (TX6 3).2.2.1 ∈ W0 := w0_in (List.mem_append_right _ (List.mem_of_getElem? (i := 426) rfl)) rfl
set_option maxRecDepth 100000 in
theorem m_427 : Cond.fieldLink RX6 18 (TX6 4).1 (TX6 4).2.1 (TX6 4).2.2.1 ∈ W0 := w0_in (List.mem_append_right _ (List.mem_of_getElem? (i := 427) rfl)) rfl
set_option maxRecDepth 100000 in
theorem m_428 : Cond.fieldLink RX6 21 (TX6 5).1 (TX6 5).2.1 (TX6 5).2.2.1 ∈ W0 := w0_in (List.mem_append_right _ (List.mem_of_getElem? (i := 428) rfl)) rfl
theorem i_X6 : ∀ w ∈ u_ws RX6 TX6 8, w ∈ W0 := by
  intro w hw
  exact w0_in (List.mem_append_right _ ((by decide +kernel : ∀ w ∈ u_ws RX6 TX6 8, w ∈ tables_1) w hw)) ((by decide +kernel : ∀ w ∈ u_ws RX6 TX6 8, goodWord w = true) w hw)
section
variable {p : Program} {l : Launch} {e : Env} {R : Room} {s : State} {m : MethodId} {args : Array Value} {below : List Frame} {meth : Method} {c : Code} {H : Heap} {locs : List Loc} {cells slots : Nat} {Q : State → Prop}
variable {cc : ByteArray} {pc : Nat} {ls : Array Slot} {rest : List Value} {X : Ec} {h h1 : Hp} {nL : Nat} {rt : Option FieldType} {mn : String}
theorem pf_X6_21 {a r : Nat} (C : Cx X p s m args meth c RX6 cc nL rt mn) (hW : Wx X h H) (hZ : va_S (aA (eB X)) s.heap H locs) (hmn : mn = "<init>") (ha : hK h a = 6) (hr : hK h r = 17) (eh : h1 = wR h a 5 (some r)) (hdg : decode cc pc = .ok (.putfield 21, 3)) (kk : ∀ (H1 : Heap) (locs1 : List Loc), Wx X h1 H1 → Km h h1 → va_S (aA (eB X)) s.heap H1 locs1 → W p l e R s m args below meth c H1 locs1 cells slots Q (F0 m (pc + 3) ls rest)) : W p l e R s m args below meth c H locs cells slots Q (F0 m pc ls (.ref r :: .ref a :: rest)) :=
  y_putrF (ty := .array .int) C hW hZ ha i_X6 tyX6 tyX6_ok nmX6 (by decide) rfl rfl (by decide) m_428 rfl hmn rfl (by decide +kernel) rfl rfl rfl hr rfl (by decide) eh hdg kk
theorem pf_X6_25 {a r : Nat} (C : Cx X p s m args meth c RX6 cc nL rt mn) (hW : Wx X h H) (hZ : va_S (aA (eB X)) s.heap H locs) (hmn : mn = "<init>") (ha : hK h a = 6) (hr : hK h r = 1) (eh : h1 = wR h a 0 (some r)) (hdg : decode cc pc = .ok (.putfield 25, 3)) (kk : ∀ (H1 : Heap) (locs1 : List Loc), Wx X h1 H1 → Km h h1 → va_S (aA (eB X)) s.heap H1 locs1 → W p l e R s m args below meth c H1 locs1 cells slots Q (F0 m (pc + 3) ls rest)) : W p l e R s m args below meth c H locs cells slots Q (F0 m pc ls (.ref r :: .ref a :: rest)) :=
  y_putrF (ty := .object "GameRules$Law") C hW hZ ha i_X6 tyX6 tyX6_ok nmX6 (by decide) rfl rfl (by decide) m_423 rfl hmn rfl (by decide +kernel) rfl rfl rfl hr rfl (by decide) eh hdg kk
theorem pf_X6_29 {a r : Nat} (C : Cx X p s m args meth c RX6 cc nL rt mn) (hW : Wx X h H) (hZ : va_S (aA (eB X)) s.heap H locs) (hmn : mn = "<init>") (ha : hK h a = 6) (hr : hK h r = 10) (eh : h1 = wR h a 1 (some r)) (hdg : decode cc pc = .ok (.putfield 29, 3)) (kk : ∀ (H1 : Heap) (locs1 : List Loc), Wx X h1 H1 → Km h h1 → va_S (aA (eB X)) s.heap H1 locs1 → W p l e R s m args below meth c H1 locs1 cells slots Q (F0 m (pc + 3) ls rest)) : W p l e R s m args below meth c H locs cells slots Q (F0 m pc ls (.ref r :: .ref a :: rest)) :=
  y_putrF (ty := .object "GameRules$Ways") C hW hZ ha i_X6 tyX6 tyX6_ok nmX6 (by decide) rfl rfl (by decide) m_424 rfl hmn rfl (by decide +kernel) rfl rfl rfl hr rfl (by decide) eh hdg kk
theorem pf_X6_33 {a r : Nat} (C : Cx X p s m args meth c RX6 cc nL rt mn) (hW : Wx X h H) (hZ : va_S (aA (eB X)) s.heap H locs) (hmn : mn = "<init>") (ha : hK h a = 6) (hr : hK h r = 5) (eh : h1 = wR h a 2 (some r)) (hdg : decode cc pc = .ok (.putfield 33, 3)) (kk : ∀ (H1 : Heap) (locs1 : List Loc), Wx X h1 H1 → Km h h1 → va_S (aA (eB X)) s.heap H1 locs1 → W p l e R s m args below meth c H1 locs1 cells slots Q (F0 m (pc + 3) ls rest)) : W p l e R s m args below meth c H locs cells slots Q (F0 m pc ls (.ref r :: .ref a :: rest)) :=
  y_putrF (ty := .object "GameRules$Referee") C hW hZ ha i_X6 tyX6 tyX6_ok nmX6 (by decide) rfl rfl (by decide) m_425 rfl hmn rfl (by decide +kernel) rfl rfl rfl hr rfl (by decide) eh hdg kk
theorem pf_X6_18 {a r : Nat} (C : Cx X p s m args meth c RX6 cc nL rt mn) (hW : Wx X h H) (hZ : va_S (aA (eB X)) s.heap H locs) (hmn : mn = "<init>") (ha : hK h a = 6) (hr : hK h r = 3) (eh : h1 = wR h a 4 (some r)) (hdg : decode cc pc = .ok (.putfield 18, 3)) (kk : ∀ (H1 : Heap) (locs1 : List Loc), Wx X h1 H1 → Km h h1 → va_S (aA (eB X)) s.heap H1 locs1 → W p l e R s m args below meth c H1 locs1 cells slots Q (F0 m (pc + 3) ls rest)) : W p l e R s m args below meth c H locs cells slots Q (F0 m pc ls (.ref r :: .ref a :: rest)) :=
  y_putrF (ty := .object "GameRules$Position") C hW hZ ha i_X6 tyX6 tyX6_ok nmX6 (by decide) rfl rfl (by decide) m_427 rfl hmn rfl (by decide +kernel) rfl rfl rfl hr rfl (by decide) eh hdg kk
theorem pf_X6_12 {a r : Nat} (C : Cx X p s m args meth c RX6 cc nL rt mn) (hW : Wx X h H) (hZ : va_S (aA (eB X)) s.heap H locs) (hmn : mn = "<init>") (ha : hK h a = 6) (hr : hK h r = 3) (eh : h1 = wR h a 3 (some r)) (hdg : decode cc pc = .ok (.putfield 12, 3)) (kk : ∀ (H1 : Heap) (locs1 : List Loc), Wx X h1 H1 → Km h h1 → va_S (aA (eB X)) s.heap H1 locs1 → W p l e R s m args below meth c H1 locs1 cells slots Q (F0 m (pc + 3) ls rest)) : W p l e R s m args below meth c H locs cells slots Q (F0 m pc ls (.ref r :: .ref a :: rest)) :=
  y_putrF (ty := .object "GameRules$Position") C hW hZ ha i_X6 tyX6 tyX6_ok nmX6 (by decide) rfl rfl (by decide) m_426 rfl hmn rfl (by decide +kernel) rfl rfl rfl hr rfl (by decide) eh hdg kk
end
theorem ci_X6_11 : cwi RX6 11 yX3_init cX3_init 1 0 := ⟨m_269, m_422, m_8, m_268, rfl, by decide, by decide, by decide +kernel⟩
theorem dX6_init_0 : decode cX6_init 0 = .ok (.aload_n 0, 1) := by decide +kernel
theorem dX6_init_1 : decode cX6_init 1 = .ok (.invokespecial 3, 3) := by decide +kernel
theorem dX6_init_4 : decode cX6_init 4 = .ok (.aload_n 0, 1) := by decide +kernel
theorem dX6_init_5 : decode cX6_init 5 = .ok (.new 9, 3) := by decide +kernel
theorem dX6_init_8 : decode cX6_init 8 = .ok (.dup, 1) := by decide +kernel
theorem dX6_init_9 : decode cX6_init 9 = .ok (.invokespecial 11, 3) := by decide +kernel
theorem dX6_init_12 : decode cX6_init 12 = .ok (.putfield 12, 3) := by decide +kernel
theorem dX6_init_15 : decode cX6_init 15 = .ok (.aload_n 0, 1) := by decide +kernel
theorem dX6_init_16 : decode cX6_init 16 = .ok (.new 9, 3) := by decide +kernel
theorem dX6_init_19 : decode cX6_init 19 = .ok (.dup, 1) := by decide +kernel
theorem dX6_init_20 : decode cX6_init 20 = .ok (.invokespecial 11, 3) := by decide +kernel
theorem dX6_init_23 : decode cX6_init 23 = .ok (.putfield 18, 3) := by decide +kernel
theorem dX6_init_26 : decode cX6_init 26 = .ok (.aload_n 0, 1) := by decide +kernel
theorem dX6_init_27 : decode cX6_init 27 = .ok (.sipush 3000, 3) := by decide +kernel
theorem dX6_init_30 : decode cX6_init 30 = .ok (.newarray .int, 2) := by decide +kernel
theorem dX6_init_32 : decode cX6_init 32 = .ok (.putfield 21, 3) := by decide +kernel
theorem dX6_init_35 : decode cX6_init 35 = .ok (.aload_n 0, 1) := by decide +kernel
theorem dX6_init_36 : decode cX6_init 36 = .ok (.aload_n 1, 1) := by decide +kernel
theorem dX6_init_37 : decode cX6_init 37 = .ok (.putfield 25, 3) := by decide +kernel
theorem dX6_init_40 : decode cX6_init 40 = .ok (.aload_n 0, 1) := by decide +kernel
theorem dX6_init_41 : decode cX6_init 41 = .ok (.aload_n 2, 1) := by decide +kernel
theorem dX6_init_42 : decode cX6_init 42 = .ok (.putfield 29, 3) := by decide +kernel
theorem dX6_init_45 : decode cX6_init 45 = .ok (.aload_n 0, 1) := by decide +kernel
theorem dX6_init_46 : decode cX6_init 46 = .ok (.aload_n 3, 1) := by decide +kernel
theorem dX6_init_47 : decode cX6_init 47 = .ok (.putfield 33, 3) := by decide +kernel
theorem dX6_init_50 : decode cX6_init 50 = .ok (.return_, 1) := by decide +kernel
set_option maxRecDepth 20000 in
theorem moX6_init_32 {o : Hp} {F : Nat} {h : Hp} {x0 : Nat} {x1 : Nat} {x2 : Nat} {x3 : Nat} {t0 : Nat} {t1 : Nat} (hE : sX6_init_32 F h x0 x1 x2 x3 t0 t1 = some o) : Le h o := by
  obtain ⟨h_1, eh_1, hE⟩ := nm_e2 hE
  refine (le_R eh_1).tr ?_
  obtain ⟨h_2, eh_2, hE⟩ := nm_e2 hE
  refine (le_R eh_2).tr ?_
  obtain ⟨h_3, eh_3, hE⟩ := nm_e2 hE
  refine (le_R eh_3).tr ?_
  obtain ⟨h_4, eh_4, hE⟩ := nm_e2 hE
  refine (le_R eh_4).tr ?_
  exact le_some1 hE
set_option maxRecDepth 20000 in
theorem moX6_init_23 {o : Hp} {F : Nat} {h : Hp} {x0 : Nat} {x1 : Nat} {x2 : Nat} {x3 : Nat} {t0 : Nat} {t1 : Nat} (hE : sX6_init_23 F h x0 x1 x2 x3 t0 t1 = some o) : Le h o := by
  obtain ⟨h_1, eh_1, hE⟩ := nm_e2 hE
  refine (le_R eh_1).tr ?_
  obtain ⟨a_2, ea_2, hE⟩ := nm_e2 hE
  obtain ⟨h_3, eh_3, hE⟩ := nm_e2 hE
  refine (le_C eh_3).tr ?_
  exact moX6_init_32 hE
set_option maxRecDepth 20000 in
theorem moX6_init_19 {o : Hp} {F : Nat} {h : Hp} {x0 : Nat} {x1 : Nat} {x2 : Nat} {x3 : Nat} {t0 : Nat} {t1 : Nat} (hE : sX6_init_19 F h x0 x1 x2 x3 t0 t1 = some o) : Le h o := by
  obtain ⟨o_1, eo_1, hE⟩ := cl_e hE
  refine (moX3_init eo_1).tr ?_
  exact moX6_init_23 hE
set_option maxRecDepth 20000 in
theorem moX6_init_12 {o : Hp} {F : Nat} {h : Hp} {x0 : Nat} {x1 : Nat} {x2 : Nat} {x3 : Nat} {t0 : Nat} {t1 : Nat} (hE : sX6_init_12 F h x0 x1 x2 x3 t0 t1 = some o) : Le h o := by
  obtain ⟨h_1, eh_1, hE⟩ := nm_e2 hE
  refine (le_R eh_1).tr ?_
  obtain ⟨a_2, ea_2, hE⟩ := nm_e2 hE
  obtain ⟨h_3, eh_3, hE⟩ := nm_e2 hE
  refine (le_C eh_3).tr ?_
  exact moX6_init_19 hE
set_option maxRecDepth 20000 in
theorem moX6_init_8 {o : Hp} {F : Nat} {h : Hp} {x0 : Nat} {x1 : Nat} {x2 : Nat} {x3 : Nat} {t0 : Nat} {t1 : Nat} (hE : sX6_init_8 F h x0 x1 x2 x3 t0 t1 = some o) : Le h o := by
  obtain ⟨o_1, eo_1, hE⟩ := cl_e hE
  refine (moX3_init eo_1).tr ?_
  exact moX6_init_12 hE
set_option maxRecDepth 20000 in
theorem moX6_init {o : Hp} {F : Nat} {h : Hp} {x0 : Nat} {x1 : Nat} {x2 : Nat} {x3 : Nat} (hE : sX6_init F h x0 x1 x2 x3 = some o) : Le h o := by
  obtain ⟨a_1, ea_1, hE⟩ := nm_e2 hE
  obtain ⟨h_2, eh_2, hE⟩ := nm_e2 hE
  refine (le_C eh_2).tr ?_
  exact moX6_init_8 hE
set_option maxRecDepth 20000 in
theorem bX6_init_32 {p : Program} {l : Launch} {e : Env} {s : State} {m : MethodId} {args : Array Value} {below : List Frame} {meth : Method} {c : Code} {X : Ec} {h0 : Hp} {o : Hp} {F : Nat} (C : Cx X p s m args meth c RX6 cX6_init 4 none "<init>") {h : Hp} {x0 : Nat} {x1 : Nat} {x2 : Nat} {x3 : Nat} {t0 : Nat} {t1 : Nat} {H : Heap} {locs : List Loc} (k_x0 : hK h x0 = 6) (k_x1 : hK h x1 = 1) (k_x2 : hK h x2 = 10) (k_x3 : hK h x3 = 5) (k_t0 : hK h t0 = 17) (k_t1 : hK h t1 = 6) (hkl : Kl h0 h) (hW : Wx X h H) (hZ : va_S (aA (eB X)) s.heap H locs) (ls : Array Slot) (hl : lv_has ls 4 [(0, .ref x0), (1, .ref x1), (2, .ref x2), (3, .ref x3)]) (hE : sX6_init_32 F h x0 x1 x2 x3 t0 t1 = some o) : W p l e (rmA 2 43 h0 o) s m args below meth c H locs (hS h - hS h0) (hL h - hL h0) (MQ below (QVA X h0 o) args s (hS o - hS h0) (hL o - hL h0) (aA (eB X))) (F0 m 32 ls [.ref t0, .ref t1]) := by
  obtain ⟨h_1, eh_1, hE⟩ := nm_e2 hE
  refine pf_X6_21 C hW hZ rfl k_t1 k_t0 eh_1 dX6_init_32 (fun _ _ hW km hZ => ?_)
  replace hkl := hkl.tr km.l
  refine x_wc km ?_
  replace k_x0 := km.at k_x0 (by decide)
  replace k_x1 := km.at k_x1 (by decide)
  replace k_x2 := km.at k_x2 (by decide)
  replace k_x3 := km.at k_x3 (by decide)
  refine lv_aload_n C.1 C.2.1 dX6_init_35 rfl (lv_at hl 0 rfl) ?_
  refine lv_aload_n C.1 C.2.1 dX6_init_36 rfl (lv_at hl 1 rfl) ?_
  obtain ⟨h_2, eh_2, hE⟩ := nm_e2 hE
  refine pf_X6_25 C hW hZ rfl k_x0 k_x1 eh_2 dX6_init_37 (fun _ _ hW km hZ => ?_)
  replace hkl := hkl.tr km.l
  refine x_wc km ?_
  replace k_x0 := km.at k_x0 (by decide)
  replace k_x1 := km.at k_x1 (by decide)
  replace k_x2 := km.at k_x2 (by decide)
  replace k_x3 := km.at k_x3 (by decide)
  refine lv_aload_n C.1 C.2.1 dX6_init_40 rfl (lv_at hl 0 rfl) ?_
  refine lv_aload_n C.1 C.2.1 dX6_init_41 rfl (lv_at hl 2 rfl) ?_
  obtain ⟨h_3, eh_3, hE⟩ := nm_e2 hE
  refine pf_X6_29 C hW hZ rfl k_x0 k_x2 eh_3 dX6_init_42 (fun _ _ hW km hZ => ?_)
  replace hkl := hkl.tr km.l
  refine x_wc km ?_
  replace k_x0 := km.at k_x0 (by decide)
  replace k_x1 := km.at k_x1 (by decide)
  replace k_x2 := km.at k_x2 (by decide)
  replace k_x3 := km.at k_x3 (by decide)
  refine lv_aload_n C.1 C.2.1 dX6_init_45 rfl (lv_at hl 0 rfl) ?_
  refine lv_aload_n C.1 C.2.1 dX6_init_46 rfl (lv_at hl 3 rfl) ?_
  obtain ⟨h_4, eh_4, hE⟩ := nm_e2 hE
  refine pf_X6_33 C hW hZ rfl k_x0 k_x3 eh_4 dX6_init_47 (fun _ _ hW km hZ => ?_)
  replace hkl := hkl.tr km.l
  refine x_wc km ?_
  replace k_x0 := km.at k_x0 (by decide)
  replace k_x1 := km.at k_x1 (by decide)
  replace k_x2 := km.at k_x2 (by decide)
  replace k_x3 := km.at k_x3 (by decide)
  exact x_vretA C rfl hW hZ hkl hE dX6_init_50
set_option maxRecDepth 20000 in
theorem bX6_init_23 {p : Program} {l : Launch} {e : Env} {s : State} {m : MethodId} {args : Array Value} {below : List Frame} {meth : Method} {c : Code} {X : Ec} {h0 : Hp} {o : Hp} {F : Nat} (C : Cx X p s m args meth c RX6 cX6_init 4 none "<init>") {h : Hp} {x0 : Nat} {x1 : Nat} {x2 : Nat} {x3 : Nat} {t0 : Nat} {t1 : Nat} {H : Heap} {locs : List Loc} (k_x0 : hK h x0 = 6) (k_x1 : hK h x1 = 1) (k_x2 : hK h x2 = 10) (k_x3 : hK h x3 = 5) (k_t0 : hK h t0 = 3) (k_t1 : hK h t1 = 6) (hkl : Kl h0 h) (hW : Wx X h H) (hZ : va_S (aA (eB X)) s.heap H locs) (ls : Array Slot) (hl : lv_has ls 4 [(0, .ref x0), (1, .ref x1), (2, .ref x2), (3, .ref x3)]) (hE : sX6_init_23 F h x0 x1 x2 x3 t0 t1 = some o) : W p l e (rmA 2 43 h0 o) s m args below meth c H locs (hS h - hS h0) (hL h - hL h0) (MQ below (QVA X h0 o) args s (hS o - hS h0) (hL o - hL h0) (aA (eB X))) (F0 m 23 ls [.ref t0, .ref t1]) := by
  obtain ⟨h_1, eh_1, hE⟩ := nm_e2 hE
  refine pf_X6_18 C hW hZ rfl k_t1 k_t0 eh_1 dX6_init_23 (fun _ _ hW km hZ => ?_)
  replace hkl := hkl.tr km.l
  refine x_wc km ?_
  replace k_x0 := km.at k_x0 (by decide)
  replace k_x1 := km.at k_x1 (by decide)
  replace k_x2 := km.at k_x2 (by decide)
  replace k_x3 := km.at k_x3 (by decide)
  refine lv_aload_n C.1 C.2.1 dX6_init_26 rfl (lv_at hl 0 rfl) ?_
  refine lv_sipush (v := (3000 : Int32)) C.1 C.2.1 dX6_init_27 (by decide) ?_
  obtain ⟨a_2, ea_2, hE⟩ := nm_e2 hE
  obtain ⟨h_3, eh_3, hE⟩ := nm_e2 hE
  refine y_newa (k := 17) (ty := .int) (t0 := 1) C hW hZ hkl (moX6_init_32 hE) ⟨rfl, rfl⟩ (by decide) (by decide) rfl rfl (by intro C hC; cases hC) hdef_17 m_54 (by decide) (by decide) eh_3 dX6_init_30 (fun _ hW km k_a_2 hZ => ?_)
  replace hkl := hkl.tr km
  refine x_nmA ea_2 ?_
  rw [← ea_2] at k_a_2
  replace k_x0 := km.at k_x0 (by decide)
  replace k_x1 := km.at k_x1 (by decide)
  replace k_x2 := km.at k_x2 (by decide)
  replace k_x3 := km.at k_x3 (by decide)
  exact bX6_init_32 C k_x0 k_x1 k_x2 k_x3 k_a_2 k_x0 hkl hW hZ _ (lv_sub hl [0, 1, 2, 3] rfl) hE
set_option maxRecDepth 20000 in
theorem bX6_init_19 {p : Program} {l : Launch} {e : Env} {s : State} {m : MethodId} {args : Array Value} {below : List Frame} {meth : Method} {c : Code} {X : Ec} {h0 : Hp} {o : Hp} {F : Nat} (C : Cx X p s m args meth c RX6 cX6_init 4 none "<init>") {h : Hp} {x0 : Nat} {x1 : Nat} {x2 : Nat} {x3 : Nat} {t0 : Nat} {t1 : Nat} {H : Heap} {locs : List Loc} (k_x0 : hK h x0 = 6) (k_x1 : hK h x1 = 1) (k_x2 : hK h x2 = 10) (k_x3 : hK h x3 = 5) (k_t0 : hK h t0 = 3) (k_t1 : hK h t1 = 6) (hkl : Kl h0 h) (hW : Wx X h H) (hZ : va_S (aA (eB X)) s.heap H locs) (ls : Array Slot) (hl : lv_has ls 4 [(0, .ref x0), (1, .ref x1), (2, .ref x2), (3, .ref x3)]) (hE : sX6_init_19 F h x0 x1 x2 x3 t0 t1 = some o) : W p l e (rmA 2 43 h0 o) s m args below meth c H locs (hS h - hS h0) (hL h - hL h0) (MQ below (QVA X h0 o) args s (hS o - hS h0) (hL o - hL h0) (aA (eB X))) (F0 m 19 ls [.ref t0, .ref t1]) := by
  refine lv_dup C.1 C.2.1 dX6_init_19 rfl ?_
  obtain ⟨o_1, eo_1, hE⟩ := cl_e hE
  have m1 := moX3_init eo_1
  have m2 := moX6_init_23 hE
  refine x_kVA (o := o_1) hkl (z_runI (As := []) (rest := [.ref t0, .ref t1]) C (ct_X3_init l X F k_t0 eo_1) ci_X6_11 hW hZ rfl hl.1 (Nat.le_of_ble_eq_true rfl) rfl dX6_init_20 ⟨Nat.le_of_ble_eq_true rfl, Nat.le_of_ble_eq_true rfl⟩ (rm_ok hkl m1 m2)) hZ (fun _ _ hW km hZ => ?_)
  replace hkl := hkl.tr km
  replace k_x0 := km.at k_x0 (by decide)
  replace k_x1 := km.at k_x1 (by decide)
  replace k_x2 := km.at k_x2 (by decide)
  replace k_x3 := km.at k_x3 (by decide)
  replace k_t0 := km.at k_t0 (by decide)
  replace k_t1 := km.at k_t1 (by decide)
  exact bX6_init_23 C k_x0 k_x1 k_x2 k_x3 k_t0 k_t1 hkl hW hZ _ (lv_sub hl [0, 1, 2, 3] rfl) hE
set_option maxRecDepth 20000 in
theorem bX6_init_12 {p : Program} {l : Launch} {e : Env} {s : State} {m : MethodId} {args : Array Value} {below : List Frame} {meth : Method} {c : Code} {X : Ec} {h0 : Hp} {o : Hp} {F : Nat} (C : Cx X p s m args meth c RX6 cX6_init 4 none "<init>") {h : Hp} {x0 : Nat} {x1 : Nat} {x2 : Nat} {x3 : Nat} {t0 : Nat} {t1 : Nat} {H : Heap} {locs : List Loc} (k_x0 : hK h x0 = 6) (k_x1 : hK h x1 = 1) (k_x2 : hK h x2 = 10) (k_x3 : hK h x3 = 5) (k_t0 : hK h t0 = 3) (k_t1 : hK h t1 = 6) (hkl : Kl h0 h) (hW : Wx X h H) (hZ : va_S (aA (eB X)) s.heap H locs) (ls : Array Slot) (hl : lv_has ls 4 [(0, .ref x0), (1, .ref x1), (2, .ref x2), (3, .ref x3)]) (hE : sX6_init_12 F h x0 x1 x2 x3 t0 t1 = some o) : W p l e (rmA 2 43 h0 o) s m args below meth c H locs (hS h - hS h0) (hL h - hL h0) (MQ below (QVA X h0 o) args s (hS o - hS h0) (hL o - hL h0) (aA (eB X))) (F0 m 12 ls [.ref t0, .ref t1]) := by
  obtain ⟨h_1, eh_1, hE⟩ := nm_e2 hE
  refine pf_X6_12 C hW hZ rfl k_t1 k_t0 eh_1 dX6_init_12 (fun _ _ hW km hZ => ?_)
  replace hkl := hkl.tr km.l
  refine x_wc km ?_
  replace k_x0 := km.at k_x0 (by decide)
  replace k_x1 := km.at k_x1 (by decide)
  replace k_x2 := km.at k_x2 (by decide)
  replace k_x3 := km.at k_x3 (by decide)
  refine lv_aload_n C.1 C.2.1 dX6_init_15 rfl (lv_at hl 0 rfl) ?_
  obtain ⟨a_2, ea_2, hE⟩ := nm_e2 hE
  obtain ⟨h_3, eh_3, hE⟩ := nm_e2 hE
  refine y_new C hW hZ hkl (moX6_init_19 hE) ⟨rfl, rfl⟩ i_X3 tyX3 tyX3_ok (by decide) rfl rfl dv_X3 m_421 m_266 m_8 eh_3 dX6_init_16 (fun _ hW km k_a_2 hZ => ?_)
  replace hkl := hkl.tr km
  refine x_nmA ea_2 ?_
  rw [← ea_2] at k_a_2
  replace k_x0 := km.at k_x0 (by decide)
  replace k_x1 := km.at k_x1 (by decide)
  replace k_x2 := km.at k_x2 (by decide)
  replace k_x3 := km.at k_x3 (by decide)
  exact bX6_init_19 C k_x0 k_x1 k_x2 k_x3 k_a_2 k_x0 hkl hW hZ _ (lv_sub hl [0, 1, 2, 3] rfl) hE
set_option maxRecDepth 20000 in
theorem bX6_init_8 {p : Program} {l : Launch} {e : Env} {s : State} {m : MethodId} {args : Array Value} {below : List Frame} {meth : Method} {c : Code} {X : Ec} {h0 : Hp} {o : Hp} {F : Nat} (C : Cx X p s m args meth c RX6 cX6_init 4 none "<init>") {h : Hp} {x0 : Nat} {x1 : Nat} {x2 : Nat} {x3 : Nat} {t0 : Nat} {t1 : Nat} {H : Heap} {locs : List Loc} (k_x0 : hK h x0 = 6) (k_x1 : hK h x1 = 1) (k_x2 : hK h x2 = 10) (k_x3 : hK h x3 = 5) (k_t0 : hK h t0 = 3) (k_t1 : hK h t1 = 6) (hkl : Kl h0 h) (hW : Wx X h H) (hZ : va_S (aA (eB X)) s.heap H locs) (ls : Array Slot) (hl : lv_has ls 4 [(0, .ref x0), (1, .ref x1), (2, .ref x2), (3, .ref x3)]) (hE : sX6_init_8 F h x0 x1 x2 x3 t0 t1 = some o) : W p l e (rmA 2 43 h0 o) s m args below meth c H locs (hS h - hS h0) (hL h - hL h0) (MQ below (QVA X h0 o) args s (hS o - hS h0) (hL o - hL h0) (aA (eB X))) (F0 m 8 ls [.ref t0, .ref t1]) := by
  refine lv_dup C.1 C.2.1 dX6_init_8 rfl ?_
  obtain ⟨o_1, eo_1, hE⟩ := cl_e hE
  have m1 := moX3_init eo_1
  have m2 := moX6_init_12 hE
  refine x_kVA (o := o_1) hkl (z_runI (As := []) (rest := [.ref t0, .ref t1]) C (ct_X3_init l X F k_t0 eo_1) ci_X6_11 hW hZ rfl hl.1 (Nat.le_of_ble_eq_true rfl) rfl dX6_init_9 ⟨Nat.le_of_ble_eq_true rfl, Nat.le_of_ble_eq_true rfl⟩ (rm_ok hkl m1 m2)) hZ (fun _ _ hW km hZ => ?_)
  replace hkl := hkl.tr km
  replace k_x0 := km.at k_x0 (by decide)
  replace k_x1 := km.at k_x1 (by decide)
  replace k_x2 := km.at k_x2 (by decide)
  replace k_x3 := km.at k_x3 (by decide)
  replace k_t0 := km.at k_t0 (by decide)
  replace k_t1 := km.at k_t1 (by decide)
  exact bX6_init_12 C k_x0 k_x1 k_x2 k_x3 k_t0 k_t1 hkl hW hZ _ (lv_sub hl [0, 1, 2, 3] rfl) hE
set_option maxRecDepth 20000 in
theorem ct_X6_init (l : Launch) (X : Ec) (F : Nat) {h : Hp} {x0 : Nat} {x1 : Nat} {x2 : Nat} {x3 : Nat} {o : Hp} (k_x0 : hK h x0 = 6) (k_x1 : hK h x1 = 1) (k_x2 : hK h x2 = 10) (k_x3 : hK h x3 = 5) (hE : sX6_init F h x0 x1 x2 x3 = some o) : MetVA l yX6_init cX6_init 4 none 2 43 X [.ref x0, .ref x1, .ref x2, .ref x3] h o := by
  refine x_metA (oh := o) (by decide) (Nat.le_of_ble_eq_true rfl) ?_
  intro p e s m below meth c ls C hl hW hZ
  have hl : lv_has ls 4 [(0, .ref x0), (1, .ref x1), (2, .ref x2), (3, .ref x3)] := hl
  have hkl : Kl h h := Kl.rf h
  refine lv_aload_n C.1 C.2.1 dX6_init_0 rfl (lv_at hl 0 rfl) ?_
  refine W.objInit C.1 C.2.1 C.2.2.2.1 (C.2.2.2.2.1 _ m_420) (C.2.2.2.2.1 _ m_32) (C.2.2.2.2.1 _ m_33) rfl (by rw [C.2.2.1]; exact hl.1) rfl dX6_init_1 (Nat.le_of_ble_eq_true rfl) (Nat.le_of_ble_eq_true rfl) ?_
  refine W.eq (g2 := F0 m 4 ls []) rfl ?_
  refine lv_aload_n C.1 C.2.1 dX6_init_4 rfl (lv_at hl 0 rfl) ?_
  obtain ⟨a_1, ea_1, hE⟩ := nm_e2 hE
  obtain ⟨h_2, eh_2, hE⟩ := nm_e2 hE
  refine y_new C hW hZ hkl (moX6_init_8 hE) ⟨rfl, rfl⟩ i_X3 tyX3 tyX3_ok (by decide) rfl rfl dv_X3 m_421 m_266 m_8 eh_2 dX6_init_5 (fun _ hW km k_a_1 hZ => ?_)
  replace hkl := hkl.tr km
  refine x_nmA ea_1 ?_
  rw [← ea_1] at k_a_1
  replace k_x0 := km.at k_x0 (by decide)
  replace k_x1 := km.at k_x1 (by decide)
  replace k_x2 := km.at k_x2 (by decide)
  replace k_x3 := km.at k_x3 (by decide)
  exact bX6_init_8 C k_x0 k_x1 k_x2 k_x3 k_a_1 k_x0 hkl hW hZ _ (lv_sub hl [0, 1, 2, 3] rfl) hE
set_option maxRecDepth 100000 in
theorem m_1412 : Cond.methodLink RX8 35 yX5_comeTo ∈ W0 := w0_in (List.mem_append_right _ (List.mem_of_getElem? (i := 1412) rfl)) rfl
set_option maxRecDepth 100000 in
theorem m_1413 : Cond.methodLink RX8 41 yX5_kindOf ∈ W0 := w0_in (List.mem_append_right _ (List.mem_of_getElem? (i := 1413) rfl)) rfl
set_option maxRecDepth 100000 in
theorem m_1418 : Cond.methodLink RX8 55 yX5_manOf ∈ W0 := w0_in (List.mem_append_right _ (List.mem_of_getElem? (i := 1418) rfl)) rfl
theorem cw_X8_55 : cwd RX8 55 yX5_manOf cX5_manOf 1 (some .int) true 1 := ⟨m_1195, m_1418, m_7, m_1194, by decide, by decide, by decide +kernel⟩
theorem cw_X8_35 : cwd RX8 35 yX5_comeTo cX5_comeTo 1 (some .int) true 1 := ⟨m_1192, m_1412, m_7, m_1191, by decide, by decide, by decide +kernel⟩
theorem cw_X8_41 : cwd RX8 41 yX5_kindOf cX5_kindOf 1 (some .int) true 1 := ⟨m_1225, m_1413, m_7, m_1224, by decide, by decide, by decide +kernel⟩
theorem dX8_isRival_0 : decode cX8_isRival 0 = .ok (.iload_n 0, 1) := by decide +kernel
theorem dX8_isRival_1 : decode cX8_isRival 1 = .ok (.invokestatic 55, 3) := by decide +kernel
theorem dX8_isRival_4 : decode cX8_isRival 4 = .ok (.iload_n 1, 1) := by decide +kernel
theorem dX8_isRival_5 : decode cX8_isRival 5 = .ok (.invokestatic 55, 3) := by decide +kernel
theorem dX8_isRival_8 : decode cX8_isRival 8 = .ok (.if_icmp .ne 26, 3) := by decide +kernel
theorem dX8_isRival_11 : decode cX8_isRival 11 = .ok (.iload_n 0, 1) := by decide +kernel
theorem dX8_isRival_12 : decode cX8_isRival 12 = .ok (.invokestatic 35, 3) := by decide +kernel
theorem dX8_isRival_15 : decode cX8_isRival 15 = .ok (.iload_n 1, 1) := by decide +kernel
theorem dX8_isRival_16 : decode cX8_isRival 16 = .ok (.invokestatic 35, 3) := by decide +kernel
theorem dX8_isRival_19 : decode cX8_isRival 19 = .ok (.if_icmp .ne 15, 3) := by decide +kernel
theorem dX8_isRival_22 : decode cX8_isRival 22 = .ok (.iload_n 0, 1) := by decide +kernel
theorem dX8_isRival_23 : decode cX8_isRival 23 = .ok (.invokestatic 41, 3) := by decide +kernel
theorem dX8_isRival_26 : decode cX8_isRival 26 = .ok (.iconst 1, 1) := by decide +kernel
theorem dX8_isRival_27 : decode cX8_isRival 27 = .ok (.if_icmp .gt 7, 3) := by decide +kernel
theorem dX8_isRival_30 : decode cX8_isRival 30 = .ok (.iconst 1, 1) := by decide +kernel
theorem dX8_isRival_31 : decode cX8_isRival 31 = .ok (.goto 4, 3) := by decide +kernel
theorem dX8_isRival_34 : decode cX8_isRival 34 = .ok (.iconst 0, 1) := by decide +kernel
theorem dX8_isRival_35 : decode cX8_isRival 35 = .ok (.ireturn, 1) := by decide +kernel
set_option maxRecDepth 20000 in
theorem moX8_isRival_35 {o : Int32 × Hp} {h : Hp} {t0 : Int32} (hE : sX8_isRival_35 h  t0 = some o) : Le h o.2 := by
  obtain ⟨g_1, hE⟩ := gd_e hE
  exact le_some2 hE
set_option maxRecDepth 20000 in
theorem moX8_isRival_34 {o : Int32 × Hp} {h : Hp} (hE : sX8_isRival_34 h  = some o) : Le h o.2 := by
  exact moX8_isRival_35 hE
set_option maxRecDepth 20000 in
theorem moX8_isRival {o : Int32 × Hp} {h : Hp} {x0 : Int32} {x1 : Int32} (hE : sX8_isRival h x0 x1 = some o) : Le h o.2 := by
  obtain ⟨o_1, eo_1, hE⟩ := cl_e hE
  refine (moX5_manOf eo_1).tr ?_
  obtain ⟨o_2, eo_2, hE⟩ := cl_e hE
  refine (moX5_manOf eo_2).tr ?_
  rcases br_e hE with ⟨_, hE⟩ | ⟨_, hE⟩
  · obtain ⟨o_4, eo_4, hE⟩ := cl_e hE
    refine (moX5_comeTo eo_4).tr ?_
    obtain ⟨o_5, eo_5, hE⟩ := cl_e hE
    refine (moX5_comeTo eo_5).tr ?_
    rcases br_e hE with ⟨_, hE⟩ | ⟨_, hE⟩
    · obtain ⟨o_7, eo_7, hE⟩ := cl_e hE
      refine (moX5_kindOf eo_7).tr ?_
      rcases br_e hE with ⟨_, hE⟩ | ⟨_, hE⟩
      · exact moX8_isRival_34 hE
      · exact moX8_isRival_35 hE
    · exact moX8_isRival_34 hE
  · exact moX8_isRival_34 hE
set_option maxRecDepth 20000 in
theorem bX8_isRival_35 {p : Program} {l : Launch} {e : Env} {s : State} {m : MethodId} {args : Array Value} {below : List Frame} {meth : Method} {c : Code} {X : Ec} {h0 : Hp} {o : Int32 × Hp} (C : Cx X p s m args meth c RX8 cX8_isRival 2 (some .boolean) "isRival") {h : Hp} {t0 : Int32} {H : Heap} {locs : List Loc} (hkm : Km h0 h) (hW : Wx X h H) (hZ : va_S (aA (eB X)) s.heap H locs) (ls : Array Slot) (hl : lv_has ls 2 []) (hE : sX8_isRival_35 h  t0 = some o) : W p l e (rm 1 20) s m args below meth c H locs 0 0 (MQ below (QI X h0 o.1 o.2) args s 0 0 (aA (eB X))) (F0 m 35 ls [.int t0]) := by
  obtain ⟨g_1, hE⟩ := gd_e hE
  exact x_iret C rfl (narB g_1) hW hZ hkm hE dX8_isRival_35
set_option maxRecDepth 20000 in
theorem bX8_isRival_34 {p : Program} {l : Launch} {e : Env} {s : State} {m : MethodId} {args : Array Value} {below : List Frame} {meth : Method} {c : Code} {X : Ec} {h0 : Hp} {o : Int32 × Hp} (C : Cx X p s m args meth c RX8 cX8_isRival 2 (some .boolean) "isRival") {h : Hp} {H : Heap} {locs : List Loc} (hkm : Km h0 h) (hW : Wx X h H) (hZ : va_S (aA (eB X)) s.heap H locs) (ls : Array Slot) (hl : lv_has ls 2 []) (hE : sX8_isRival_34 h  = some o) : W p l e (rm 1 20) s m args below meth c H locs 0 0 (MQ below (QI X h0 o.1 o.2) args s 0 0 (aA (eB X))) (F0 m 34 ls []) := by
  refine lv_iconst (v := (0 : Int32)) C.1 C.2.1 dX8_isRival_34 (by decide) ?_
  exact bX8_isRival_35 C hkm hW hZ _ (lv_sub hl [] rfl) hE
set_option maxRecDepth 20000 in
theorem ct_X8_isRival (l : Launch) (X : Ec) {h : Hp} {x0 : Int32} {x1 : Int32} {o : Int32 × Hp} (hE : sX8_isRival h x0 x1 = some o) : MetI l yX8_isRival cX8_isRival 2 (some .boolean) 1 20 X [.int x0, .int x1] h o := by
  refine x_met (by decide) (Nat.le_of_ble_eq_true rfl) ?_
  intro p e s m below meth c ls C hl hW hZ
  have hl : lv_has ls 2 [(0, .int x0), (1, .int x1)] := hl
  have hkm : Km h h := Km.rf h
  refine lv_iload_n C.1 C.2.1 dX8_isRival_0 rfl (lv_at hl 0 rfl) ?_
  obtain ⟨o_1, eo_1, hE⟩ := cl_e hE
  refine x_kI (o := o_1) (z_runS (As := [.int x0]) (rest := []) C (ct_X5_manOf l X eo_1) cw_X8_55 hW hZ rfl hl.1 (Nat.le_of_ble_eq_true rfl) rfl dX8_isRival_1 ⟨Nat.le_of_ble_eq_true rfl, Nat.le_of_ble_eq_true rfl⟩ ⟨Nat.le_refl _, Nat.le_refl _⟩) hZ (fun _ _ hW km hZ => ?_)
  replace hkm := hkm.tr km
  refine lv_iload_n C.1 C.2.1 dX8_isRival_4 rfl (lv_at hl 1 rfl) ?_
  obtain ⟨o_2, eo_2, hE⟩ := cl_e hE
  refine x_kI (o := o_2) (z_runS (As := [.int x1]) (rest := [.int o_1.1]) C (ct_X5_manOf l X eo_2) cw_X8_55 hW hZ rfl hl.1 (Nat.le_of_ble_eq_true rfl) rfl dX8_isRival_5 ⟨Nat.le_of_ble_eq_true rfl, Nat.le_of_ble_eq_true rfl⟩ ⟨Nat.le_refl _, Nat.le_refl _⟩) hZ (fun _ _ hW km hZ => ?_)
  replace hkm := hkm.tr km
  refine lv_icmp_ne (tgt := 34) C.1 C.2.1 dX8_isRival_8 (by decide) (fun c_3 => ?_) (fun c_3 => ?_)
  · have hE := br_n hE c_3
    exact bX8_isRival_34 C hkm hW hZ _ (lv_sub hl [] rfl) hE
  · have hE := br_p hE c_3
    refine lv_iload_n C.1 C.2.1 dX8_isRival_11 rfl (lv_at hl 0 rfl) ?_
    obtain ⟨o_4, eo_4, hE⟩ := cl_e hE
    refine x_kI (o := o_4) (z_runS (As := [.int x0]) (rest := []) C (ct_X5_comeTo l X eo_4) cw_X8_35 hW hZ rfl hl.1 (Nat.le_of_ble_eq_true rfl) rfl dX8_isRival_12 ⟨Nat.le_of_ble_eq_true rfl, Nat.le_of_ble_eq_true rfl⟩ ⟨Nat.le_refl _, Nat.le_refl _⟩) hZ (fun _ _ hW km hZ => ?_)
    replace hkm := hkm.tr km
    refine lv_iload_n C.1 C.2.1 dX8_isRival_15 rfl (lv_at hl 1 rfl) ?_
    obtain ⟨o_5, eo_5, hE⟩ := cl_e hE
    refine x_kI (o := o_5) (z_runS (As := [.int x1]) (rest := [.int o_4.1]) C (ct_X5_comeTo l X eo_5) cw_X8_35 hW hZ rfl hl.1 (Nat.le_of_ble_eq_true rfl) rfl dX8_isRival_16 ⟨Nat.le_of_ble_eq_true rfl, Nat.le_of_ble_eq_true rfl⟩ ⟨Nat.le_refl _, Nat.le_refl _⟩) hZ (fun _ _ hW km hZ => ?_)
    replace hkm := hkm.tr km
    refine lv_icmp_ne (tgt := 34) C.1 C.2.1 dX8_isRival_19 (by decide) (fun c_6 => ?_) (fun c_6 => ?_)
    · have hE := br_n hE c_6
      exact bX8_isRival_34 C hkm hW hZ _ (lv_sub hl [] rfl) hE
    · have hE := br_p hE c_6
      refine lv_iload_n C.1 C.2.1 dX8_isRival_22 rfl (lv_at hl 0 rfl) ?_
      obtain ⟨o_7, eo_7, hE⟩ := cl_e hE
      refine x_kI (o := o_7) (z_runS (As := [.int x0]) (rest := []) C (ct_X5_kindOf l X eo_7) cw_X8_41 hW hZ rfl hl.1 (Nat.le_of_ble_eq_true rfl) rfl dX8_isRival_23 ⟨Nat.le_of_ble_eq_true rfl, Nat.le_of_ble_eq_true rfl⟩ ⟨Nat.le_refl _, Nat.le_refl _⟩) hZ (fun _ _ hW km hZ => ?_)
      replace hkm := hkm.tr km
      refine lv_iconst (v := (1 : Int32)) C.1 C.2.1 dX8_isRival_26 (by decide) ?_
      refine lv_icmp_gt (tgt := 34) C.1 C.2.1 dX8_isRival_27 (by decide) (fun c_8 => ?_) (fun c_8 => ?_)
      · have hE := br_p hE c_8
        exact bX8_isRival_34 C hkm hW hZ _ (lv_sub hl [] rfl) hE
      · have hE := br_n hE c_8
        refine lv_iconst (v := (1 : Int32)) C.1 C.2.1 dX8_isRival_30 (by decide) ?_
        refine lv_goto (tgt := 35) C.1 C.2.1 dX8_isRival_31 (by decide) ?_
        exact bX8_isRival_35 C hkm hW hZ _ (lv_sub hl [] rfl) hE
set_option maxRecDepth 100000 in
theorem m_11 : Cond.initialized RX8 ∈ W0 := w0_in (List.mem_append_right _ (List.mem_of_getElem? (i := 11) rfl)) rfl
set_option maxRecDepth 100000 in
theorem m_94 : Cond.fieldLink RX8 66 (TX1 5).1 (TX1 5).2.1 (TX1 5).2.2.1 ∈ W0 := w0_in (List.mem_append_right _ (List.mem_of_getElem? (i := 94) rfl)) rfl
set_option maxRecDepth 100000 in
theorem m_136 : Cond.fieldLink RX8 90 (TX1 19).1 (TX1 19).2.1 (TX1 19).2.2.1 ∈ W0 := w0_in (List.mem_append_right _ (List.mem_of_getElem? (i := 136) rfl)) rfl
set_option maxRecDepth 100000 in
theorem m_142 : Cond.fieldLink RX8 94 (TX1 20).1 (TX1 20).2.1 (TX1 20).2.2.1 ∈ W0 := w0_in (List.mem_append_right _ (List.mem_of_getElem? (i := 142) rfl)) rfl
set_option maxRecDepth 100000 in
theorem m_1414 : Cond.methodLink RX8 44 yX5_leftBy ∈ W0 := w0_in (List.mem_append_right _ (List.mem_of_getElem? (i := 1414) rfl)) rfl
set_option maxRecDepth 100000 in
theorem m_1420 : Cond.methodLink RX8 63 yX9_append ∈ W0 := w0_in (List.mem_append_right _ (List.mem_of_getElem? (i := 1420) rfl)) rfl
set_option maxRecDepth 100000 in
theorem m_1425 : Cond.methodLink RX8 86 yX8_isRival ∈ W0 := w0_in (List.mem_append_right _ (List.mem_of_getElem? (i := 1425) rfl)) rfl
set_option maxRecDepth 100000 in
theorem m_1426 : Cond.static yX8_isRival ∈ W0 := w0_in (List.mem_append_right _ (List.mem_of_getElem? (i := 1426) rfl)) rfl
set_option maxRecDepth 100000 in
theorem m_1427 : Cond.code yX8_isRival cX8_isRival 2 (some .boolean) ∈ W0 := w0_in (List.mem_append_right _ (List.mem_of_getElem? (i := 1427) rfl)) rfl
set_option maxRecDepth 100000 in
theorem m_1428 : Cond.methodLink RX8 74 yX5_takenBy ∈ W0 := w0_in (List.mem_append_right _ (List.mem_of_getElem? (i := 1428) rfl)) rfl
section
variable {p : Program} {l : Launch} {e : Env} {R : Room} {s : State} {m : MethodId} {args : Array Value} {below : List Frame} {meth : Method} {c : Code} {H : Heap} {locs : List Loc} {cells slots : Nat} {Q : State → Prop}
variable {cc : ByteArray} {pc : Nat} {ls : Array Slot} {rest : List Value} {X : Ec} {h h1 : Hp} {nL : Nat} {rt : Option FieldType} {mn : String}
theorem gf_X8_27 {a r : Nat} (C : Cx X p s m args meth c RX8 cc nL rt mn) (hW : Wx X h H) (ha : hK h a = 8) (hr : hR h a 0 = some r) (hdg : decode cc pc = .ok (.getfield 27, 3)) (kk : hK h r = 1 → W p l e R s m args below meth c H locs cells slots Q (F0 m (pc + 3) ls (.ref r :: rest))) : W p l e R s m args below meth c H locs cells slots Q (F0 m pc ls (.ref a :: rest)) :=
  y_getr C hW ha i_X8 (by decide) rfl (by decide) m_402 rfl rfl hr hdg kk
theorem gf_X8_94 {a r : Nat} (C : Cx X p s m args meth c RX8 cc nL rt mn) (hW : Wx X h H) (ha : hK h a = 1) (hr : hR h a 20 = some r) (hdg : decode cc pc = .ok (.getfield 94, 3)) (kk : hK h r = 17 → W p l e R s m args below meth c H locs cells slots Q (F0 m (pc + 3) ls (.ref r :: rest))) : W p l e R s m args below meth c H locs cells slots Q (F0 m pc ls (.ref a :: rest)) :=
  y_getr C hW ha i_X1 (by decide) rfl (by decide) m_142 rfl rfl hr hdg kk
theorem gf_X8_90 {a r : Nat} (C : Cx X p s m args meth c RX8 cc nL rt mn) (hW : Wx X h H) (ha : hK h a = 1) (hr : hR h a 19 = some r) (hdg : decode cc pc = .ok (.getfield 90, 3)) (kk : hK h r = 17 → W p l e R s m args below meth c H locs cells slots Q (F0 m (pc + 3) ls (.ref r :: rest))) : W p l e R s m args below meth c H locs cells slots Q (F0 m pc ls (.ref a :: rest)) :=
  y_getr C hW ha i_X1 (by decide) rfl (by decide) m_136 rfl rfl hr hdg kk
theorem gf_X8_66 {a : Nat} (C : Cx X p s m args meth c RX8 cc nL rt mn) (hW : Wx X h H) (ha : hK h a = 1) (hdg : decode cc pc = .ok (.getfield 66, 3)) (kk : W p l e R s m args below meth c H locs cells slots Q (F0 m (pc + 3) ls (.int (hI h a 5) :: rest))) : W p l e R s m args below meth c H locs cells slots Q (F0 m pc ls (.ref a :: rest)) :=
  y_geti C hW ha i_X1 (by decide) rfl (by decide) m_94 rfl hdg kk
end
theorem cw_X8_63 : cwd RX8 63 yX9_append cX9_append 2 none false 1 := ⟨m_641, m_1420, m_2, ⟨m_639, m_640⟩, by decide, by decide, by decide +kernel⟩
theorem cw_X8_74 : cwd RX8 74 yX5_takenBy cX5_takenBy 2 (some .int) true 1 := ⟨m_1189, m_1428, m_7, m_1188, by decide, by decide, by decide +kernel⟩
theorem cw_X8_44 : cwd RX8 44 yX5_leftBy cX5_leftBy 1 (some .int) true 1 := ⟨m_1228, m_1414, m_7, m_1227, by decide, by decide, by decide +kernel⟩
theorem cw_X8_86 : cwd RX8 86 yX8_isRival cX8_isRival 2 (some .boolean) true 2 := ⟨m_1427, m_1425, m_11, m_1426, by decide, by decide, by decide +kernel⟩
theorem dX8_writeLeft_0 : decode cX8_writeLeft 0 = .ok (.iload_n 3, 1) := by decide +kernel
theorem dX8_writeLeft_1 : decode cX8_writeLeft 1 = .ok (.invokestatic 44, 3) := by decide +kernel
theorem dX8_writeLeft_4 : decode cX8_writeLeft 4 = .ok (.istore 5, 2) := by decide +kernel
theorem dX8_writeLeft_6 : decode cX8_writeLeft 6 = .ok (.iconst 0, 1) := by decide +kernel
theorem dX8_writeLeft_7 : decode cX8_writeLeft 7 = .ok (.istore 6, 2) := by decide +kernel
theorem dX8_writeLeft_9 : decode cX8_writeLeft 9 = .ok (.iconst 0, 1) := by decide +kernel
theorem dX8_writeLeft_10 : decode cX8_writeLeft 10 = .ok (.istore 7, 2) := by decide +kernel
theorem dX8_writeLeft_12 : decode cX8_writeLeft 12 = .ok (.iconst 0, 1) := by decide +kernel
theorem dX8_writeLeft_13 : decode cX8_writeLeft 13 = .ok (.istore 8, 2) := by decide +kernel
theorem dX8_writeLeft_15 : decode cX8_writeLeft 15 = .ok (.iconst 0, 1) := by decide +kernel
theorem dX8_writeLeft_16 : decode cX8_writeLeft 16 = .ok (.istore 9, 2) := by decide +kernel
theorem dX8_writeLeft_18 : decode cX8_writeLeft 18 = .ok (.iload 9, 2) := by decide +kernel
theorem dX8_writeLeft_20 : decode cX8_writeLeft 20 = .ok (.iload_n 2, 1) := by decide +kernel
theorem dX8_writeLeft_21 : decode cX8_writeLeft 21 = .ok (.if_icmp .ge 109, 3) := by decide +kernel
theorem dX8_writeLeft_24 : decode cX8_writeLeft 24 = .ok (.aload_n 1, 1) := by decide +kernel
theorem dX8_writeLeft_25 : decode cX8_writeLeft 25 = .ok (.iload 9, 2) := by decide +kernel
theorem dX8_writeLeft_27 : decode cX8_writeLeft 27 = .ok (.iaload, 1) := by decide +kernel
theorem dX8_writeLeft_28 : decode cX8_writeLeft 28 = .ok (.invokestatic 44, 3) := by decide +kernel
theorem dX8_writeLeft_31 : decode cX8_writeLeft 31 = .ok (.istore 10, 2) := by decide +kernel
theorem dX8_writeLeft_33 : decode cX8_writeLeft 33 = .ok (.iload 10, 2) := by decide +kernel
theorem dX8_writeLeft_35 : decode cX8_writeLeft 35 = .ok (.iload 5, 2) := by decide +kernel
theorem dX8_writeLeft_37 : decode cX8_writeLeft 37 = .ok (.if_icmp .eq 87, 3) := by decide +kernel
theorem dX8_writeLeft_40 : decode cX8_writeLeft 40 = .ok (.aload_n 1, 1) := by decide +kernel
theorem dX8_writeLeft_41 : decode cX8_writeLeft 41 = .ok (.iload 9, 2) := by decide +kernel
theorem dX8_writeLeft_43 : decode cX8_writeLeft 43 = .ok (.iaload, 1) := by decide +kernel
theorem dX8_writeLeft_44 : decode cX8_writeLeft 44 = .ok (.iload_n 3, 1) := by decide +kernel
theorem dX8_writeLeft_45 : decode cX8_writeLeft 45 = .ok (.invokestatic 86, 3) := by decide +kernel
theorem dX8_writeLeft_48 : decode cX8_writeLeft 48 = .ok (.ifCond .eq 76, 3) := by decide +kernel
theorem dX8_writeLeft_51 : decode cX8_writeLeft 51 = .ok (.iconst 1, 1) := by decide +kernel
theorem dX8_writeLeft_52 : decode cX8_writeLeft 52 = .ok (.istore 6, 2) := by decide +kernel
theorem dX8_writeLeft_54 : decode cX8_writeLeft 54 = .ok (.iload 7, 2) := by decide +kernel
theorem dX8_writeLeft_56 : decode cX8_writeLeft 56 = .ok (.ifCond .ne 26, 3) := by decide +kernel
theorem dX8_writeLeft_59 : decode cX8_writeLeft 59 = .ok (.aload_n 0, 1) := by decide +kernel
theorem dX8_writeLeft_60 : decode cX8_writeLeft 60 = .ok (.getfield 27, 3) := by decide +kernel
theorem dX8_writeLeft_63 : decode cX8_writeLeft 63 = .ok (.getfield 90, 3) := by decide +kernel
theorem dX8_writeLeft_66 : decode cX8_writeLeft 66 = .ok (.iload 10, 2) := by decide +kernel
theorem dX8_writeLeft_68 : decode cX8_writeLeft 68 = .ok (.iaload, 1) := by decide +kernel
theorem dX8_writeLeft_69 : decode cX8_writeLeft 69 = .ok (.aload_n 0, 1) := by decide +kernel
theorem dX8_writeLeft_70 : decode cX8_writeLeft 70 = .ok (.getfield 27, 3) := by decide +kernel
theorem dX8_writeLeft_73 : decode cX8_writeLeft 73 = .ok (.getfield 90, 3) := by decide +kernel
theorem dX8_writeLeft_76 : decode cX8_writeLeft 76 = .ok (.iload 5, 2) := by decide +kernel
theorem dX8_writeLeft_78 : decode cX8_writeLeft 78 = .ok (.iaload, 1) := by decide +kernel
theorem dX8_writeLeft_79 : decode cX8_writeLeft 79 = .ok (.if_icmp .ne 7, 3) := by decide +kernel
theorem dX8_writeLeft_82 : decode cX8_writeLeft 82 = .ok (.iconst 1, 1) := by decide +kernel
theorem dX8_writeLeft_83 : decode cX8_writeLeft 83 = .ok (.goto 4, 3) := by decide +kernel
theorem dX8_writeLeft_86 : decode cX8_writeLeft 86 = .ok (.iconst 0, 1) := by decide +kernel
theorem dX8_writeLeft_87 : decode cX8_writeLeft 87 = .ok (.istore 7, 2) := by decide +kernel
theorem dX8_writeLeft_89 : decode cX8_writeLeft 89 = .ok (.iload 8, 2) := by decide +kernel
theorem dX8_writeLeft_91 : decode cX8_writeLeft 91 = .ok (.ifCond .ne 26, 3) := by decide +kernel
theorem dX8_writeLeft_94 : decode cX8_writeLeft 94 = .ok (.aload_n 0, 1) := by decide +kernel
theorem dX8_writeLeft_95 : decode cX8_writeLeft 95 = .ok (.getfield 27, 3) := by decide +kernel
theorem dX8_writeLeft_98 : decode cX8_writeLeft 98 = .ok (.getfield 94, 3) := by decide +kernel
theorem dX8_writeLeft_101 : decode cX8_writeLeft 101 = .ok (.iload 10, 2) := by decide +kernel
theorem dX8_writeLeft_103 : decode cX8_writeLeft 103 = .ok (.iaload, 1) := by decide +kernel
theorem dX8_writeLeft_104 : decode cX8_writeLeft 104 = .ok (.aload_n 0, 1) := by decide +kernel
theorem dX8_writeLeft_105 : decode cX8_writeLeft 105 = .ok (.getfield 27, 3) := by decide +kernel
theorem dX8_writeLeft_108 : decode cX8_writeLeft 108 = .ok (.getfield 94, 3) := by decide +kernel
theorem dX8_writeLeft_111 : decode cX8_writeLeft 111 = .ok (.iload 5, 2) := by decide +kernel
theorem dX8_writeLeft_113 : decode cX8_writeLeft 113 = .ok (.iaload, 1) := by decide +kernel
theorem dX8_writeLeft_114 : decode cX8_writeLeft 114 = .ok (.if_icmp .ne 7, 3) := by decide +kernel
theorem dX8_writeLeft_117 : decode cX8_writeLeft 117 = .ok (.iconst 1, 1) := by decide +kernel
theorem dX8_writeLeft_118 : decode cX8_writeLeft 118 = .ok (.goto 4, 3) := by decide +kernel
theorem dX8_writeLeft_121 : decode cX8_writeLeft 121 = .ok (.iconst 0, 1) := by decide +kernel
theorem dX8_writeLeft_122 : decode cX8_writeLeft 122 = .ok (.istore 8, 2) := by decide +kernel
theorem dX8_writeLeft_124 : decode cX8_writeLeft 124 = .ok (.iinc 9 1, 3) := by decide +kernel
theorem dX8_writeLeft_127 : decode cX8_writeLeft 127 = .ok (.goto (-109), 3) := by decide +kernel
theorem dX8_writeLeft_130 : decode cX8_writeLeft 130 = .ok (.iload_n 3, 1) := by decide +kernel
theorem dX8_writeLeft_131 : decode cX8_writeLeft 131 = .ok (.invokestatic 55, 3) := by decide +kernel
theorem dX8_writeLeft_134 : decode cX8_writeLeft 134 = .ok (.aload_n 0, 1) := by decide +kernel
theorem dX8_writeLeft_135 : decode cX8_writeLeft 135 = .ok (.getfield 27, 3) := by decide +kernel
theorem dX8_writeLeft_138 : decode cX8_writeLeft 138 = .ok (.getfield 66, 3) := by decide +kernel
theorem dX8_writeLeft_141 : decode cX8_writeLeft 141 = .ok (.if_icmp .ne 15, 3) := by decide +kernel
theorem dX8_writeLeft_144 : decode cX8_writeLeft 144 = .ok (.iload_n 3, 1) := by decide +kernel
theorem dX8_writeLeft_145 : decode cX8_writeLeft 145 = .ok (.invokestatic 74, 3) := by decide +kernel
theorem dX8_writeLeft_148 : decode cX8_writeLeft 148 = .ok (.iconst (-1), 1) := by decide +kernel
theorem dX8_writeLeft_149 : decode cX8_writeLeft 149 = .ok (.if_icmp .eq 7, 3) := by decide +kernel
theorem dX8_writeLeft_152 : decode cX8_writeLeft 152 = .ok (.iconst 1, 1) := by decide +kernel
theorem dX8_writeLeft_153 : decode cX8_writeLeft 153 = .ok (.goto 4, 3) := by decide +kernel
theorem dX8_writeLeft_156 : decode cX8_writeLeft 156 = .ok (.iconst 0, 1) := by decide +kernel
theorem dX8_writeLeft_157 : decode cX8_writeLeft 157 = .ok (.istore 9, 2) := by decide +kernel
theorem dX8_writeLeft_159 : decode cX8_writeLeft 159 = .ok (.iload 9, 2) := by decide +kernel
theorem dX8_writeLeft_161 : decode cX8_writeLeft 161 = .ok (.ifCond .ne 18, 3) := by decide +kernel
theorem dX8_writeLeft_164 : decode cX8_writeLeft 164 = .ok (.iload 6, 2) := by decide +kernel
theorem dX8_writeLeft_166 : decode cX8_writeLeft 166 = .ok (.ifCond .eq 17, 3) := by decide +kernel
theorem dX8_writeLeft_169 : decode cX8_writeLeft 169 = .ok (.iload 7, 2) := by decide +kernel
theorem dX8_writeLeft_171 : decode cX8_writeLeft 171 = .ok (.ifCond .eq 8, 3) := by decide +kernel
theorem dX8_writeLeft_174 : decode cX8_writeLeft 174 = .ok (.iload 8, 2) := by decide +kernel
theorem dX8_writeLeft_176 : decode cX8_writeLeft 176 = .ok (.ifCond .eq 7, 3) := by decide +kernel
theorem dX8_writeLeft_179 : decode cX8_writeLeft 179 = .ok (.iconst 1, 1) := by decide +kernel
theorem dX8_writeLeft_180 : decode cX8_writeLeft 180 = .ok (.goto 4, 3) := by decide +kernel
theorem dX8_writeLeft_183 : decode cX8_writeLeft 183 = .ok (.iconst 0, 1) := by decide +kernel
theorem dX8_writeLeft_184 : decode cX8_writeLeft 184 = .ok (.istore 10, 2) := by decide +kernel
theorem dX8_writeLeft_186 : decode cX8_writeLeft 186 = .ok (.iload 7, 2) := by decide +kernel
theorem dX8_writeLeft_188 : decode cX8_writeLeft 188 = .ok (.ifCond .eq 17, 3) := by decide +kernel
theorem dX8_writeLeft_191 : decode cX8_writeLeft 191 = .ok (.iload 9, 2) := by decide +kernel
theorem dX8_writeLeft_193 : decode cX8_writeLeft 193 = .ok (.ifCond .ne 8, 3) := by decide +kernel
theorem dX8_writeLeft_196 : decode cX8_writeLeft 196 = .ok (.iload 6, 2) := by decide +kernel
theorem dX8_writeLeft_198 : decode cX8_writeLeft 198 = .ok (.ifCond .eq 7, 3) := by decide +kernel
theorem dX8_writeLeft_201 : decode cX8_writeLeft 201 = .ok (.iconst 1, 1) := by decide +kernel
theorem dX8_writeLeft_202 : decode cX8_writeLeft 202 = .ok (.goto 4, 3) := by decide +kernel
theorem dX8_writeLeft_205 : decode cX8_writeLeft 205 = .ok (.iconst 0, 1) := by decide +kernel
theorem dX8_writeLeft_206 : decode cX8_writeLeft 206 = .ok (.istore 11, 2) := by decide +kernel
theorem dX8_writeLeft_208 : decode cX8_writeLeft 208 = .ok (.iload 10, 2) := by decide +kernel
theorem dX8_writeLeft_210 : decode cX8_writeLeft 210 = .ok (.ifCond .eq 21, 3) := by decide +kernel
theorem dX8_writeLeft_213 : decode cX8_writeLeft 213 = .ok (.aload 4, 2) := by decide +kernel
theorem dX8_writeLeft_215 : decode cX8_writeLeft 215 = .ok (.bipush 97, 2) := by decide +kernel
theorem dX8_writeLeft_217 : decode cX8_writeLeft 217 = .ok (.aload_n 0, 1) := by decide +kernel
theorem dX8_writeLeft_218 : decode cX8_writeLeft 218 = .ok (.getfield 27, 3) := by decide +kernel
theorem dX8_writeLeft_221 : decode cX8_writeLeft 221 = .ok (.getfield 90, 3) := by decide +kernel
theorem dX8_writeLeft_224 : decode cX8_writeLeft 224 = .ok (.iload 5, 2) := by decide +kernel
theorem dX8_writeLeft_226 : decode cX8_writeLeft 226 = .ok (.iaload, 1) := by decide +kernel
theorem dX8_writeLeft_227 : decode cX8_writeLeft 227 = .ok (.iadd, 1) := by decide +kernel
theorem dX8_writeLeft_228 : decode cX8_writeLeft 228 = .ok (.invokevirtual 63, 3) := by decide +kernel
theorem dX8_writeLeft_231 : decode cX8_writeLeft 231 = .ok (.iload 11, 2) := by decide +kernel
theorem dX8_writeLeft_233 : decode cX8_writeLeft 233 = .ok (.ifCond .eq 21, 3) := by decide +kernel
theorem dX8_writeLeft_236 : decode cX8_writeLeft 236 = .ok (.aload 4, 2) := by decide +kernel
theorem dX8_writeLeft_238 : decode cX8_writeLeft 238 = .ok (.bipush 49, 2) := by decide +kernel
theorem dX8_writeLeft_240 : decode cX8_writeLeft 240 = .ok (.aload_n 0, 1) := by decide +kernel
theorem dX8_writeLeft_241 : decode cX8_writeLeft 241 = .ok (.getfield 27, 3) := by decide +kernel
theorem dX8_writeLeft_244 : decode cX8_writeLeft 244 = .ok (.getfield 94, 3) := by decide +kernel
theorem dX8_writeLeft_247 : decode cX8_writeLeft 247 = .ok (.iload 5, 2) := by decide +kernel
theorem dX8_writeLeft_249 : decode cX8_writeLeft 249 = .ok (.iaload, 1) := by decide +kernel
theorem dX8_writeLeft_250 : decode cX8_writeLeft 250 = .ok (.iadd, 1) := by decide +kernel
theorem dX8_writeLeft_251 : decode cX8_writeLeft 251 = .ok (.invokevirtual 63, 3) := by decide +kernel
theorem dX8_writeLeft_254 : decode cX8_writeLeft 254 = .ok (.return_, 1) := by decide +kernel
set_option maxRecDepth 20000 in
theorem moX8_writeLeft_254 {o : Hp} {F : Nat} {h : Hp} (hE : sX8_writeLeft_254 F h  = some o) : Le h o := by
  exact le_some1 hE
set_option maxRecDepth 20000 in
theorem moX8_writeLeft_231 {o : Hp} {F : Nat} {h : Hp} {x0 : Nat} {x4 : Nat} {x5 : Int32} {x11 : Int32} (hE : sX8_writeLeft_231 F h x0 x4 x5 x11 = some o) : Le h o := by
  rcases br_e hE with ⟨_, hE⟩ | ⟨_, hE⟩
  · exact moX8_writeLeft_254 hE
  · obtain ⟨r_2, er_2, hE⟩ := cl_e hE
    obtain ⟨r_3, er_3, hE⟩ := cl_e hE
    obtain ⟨g_4, hE⟩ := gd_e hE
    obtain ⟨o_5, eo_5, hE⟩ := cl_e hE
    refine (moX9_append eo_5).tr ?_
    exact moX8_writeLeft_254 hE
set_option maxRecDepth 20000 in
theorem moX8_writeLeft_206 {o : Hp} {F : Nat} {h : Hp} {x0 : Nat} {x4 : Nat} {x5 : Int32} {x10 : Int32} {t0 : Int32} (hE : sX8_writeLeft_206 F h x0 x4 x5 x10 t0 = some o) : Le h o := by
  rcases br_e hE with ⟨_, hE⟩ | ⟨_, hE⟩
  · exact moX8_writeLeft_231 hE
  · obtain ⟨r_2, er_2, hE⟩ := cl_e hE
    obtain ⟨r_3, er_3, hE⟩ := cl_e hE
    obtain ⟨g_4, hE⟩ := gd_e hE
    obtain ⟨o_5, eo_5, hE⟩ := cl_e hE
    refine (moX9_append eo_5).tr ?_
    exact moX8_writeLeft_231 hE
set_option maxRecDepth 20000 in
theorem moX8_writeLeft_205 {o : Hp} {F : Nat} {h : Hp} {x0 : Nat} {x4 : Nat} {x5 : Int32} {x10 : Int32} (hE : sX8_writeLeft_205 F h x0 x4 x5 x10 = some o) : Le h o := by
  exact moX8_writeLeft_206 hE
set_option maxRecDepth 20000 in
theorem moX8_writeLeft_201 {o : Hp} {F : Nat} {h : Hp} {x0 : Nat} {x4 : Nat} {x5 : Int32} {x10 : Int32} (hE : sX8_writeLeft_201 F h x0 x4 x5 x10 = some o) : Le h o := by
  exact moX8_writeLeft_206 hE
set_option maxRecDepth 20000 in
theorem moX8_writeLeft_184 {o : Hp} {F : Nat} {h : Hp} {x0 : Nat} {x4 : Nat} {x5 : Int32} {x6 : Int32} {x7 : Int32} {x9 : Int32} {t0 : Int32} (hE : sX8_writeLeft_184 F h x0 x4 x5 x6 x7 x9 t0 = some o) : Le h o := by
  rcases br_e hE with ⟨_, hE⟩ | ⟨_, hE⟩
  · exact moX8_writeLeft_205 hE
  · rcases br_e hE with ⟨_, hE⟩ | ⟨_, hE⟩
    · rcases br_e hE with ⟨_, hE⟩ | ⟨_, hE⟩
      · exact moX8_writeLeft_205 hE
      · exact moX8_writeLeft_201 hE
    · exact moX8_writeLeft_201 hE
set_option maxRecDepth 20000 in
theorem moX8_writeLeft_179 {o : Hp} {F : Nat} {h : Hp} {x0 : Nat} {x4 : Nat} {x5 : Int32} {x6 : Int32} {x7 : Int32} {x9 : Int32} (hE : sX8_writeLeft_179 F h x0 x4 x5 x6 x7 x9 = some o) : Le h o := by
  exact moX8_writeLeft_184 hE
set_option maxRecDepth 20000 in
theorem moX8_writeLeft_183 {o : Hp} {F : Nat} {h : Hp} {x0 : Nat} {x4 : Nat} {x5 : Int32} {x6 : Int32} {x7 : Int32} {x9 : Int32} (hE : sX8_writeLeft_183 F h x0 x4 x5 x6 x7 x9 = some o) : Le h o := by
  exact moX8_writeLeft_184 hE
set_option maxRecDepth 20000 in
theorem moX8_writeLeft_157 {o : Hp} {F : Nat} {h : Hp} {x0 : Nat} {x4 : Nat} {x5 : Int32} {x6 : Int32} {x7 : Int32} {x8 : Int32} {t0 : Int32} (hE : sX8_writeLeft_157 F h x0 x4 x5 x6 x7 x8 t0 = some o) : Le h o := by
  rcases br_e hE with ⟨_, hE⟩ | ⟨_, hE⟩
  · rcases br_e hE with ⟨_, hE⟩ | ⟨_, hE⟩
    · exact moX8_writeLeft_183 hE
    · rcases br_e hE with ⟨_, hE⟩ | ⟨_, hE⟩
      · exact moX8_writeLeft_179 hE
      · rcases br_e hE with ⟨_, hE⟩ | ⟨_, hE⟩
        · exact moX8_writeLeft_183 hE
        · exact moX8_writeLeft_179 hE
  · exact moX8_writeLeft_179 hE
set_option maxRecDepth 20000 in
theorem moX8_writeLeft_156 {o : Hp} {F : Nat} {h : Hp} {x0 : Nat} {x4 : Nat} {x5 : Int32} {x6 : Int32} {x7 : Int32} {x8 : Int32} (hE : sX8_writeLeft_156 F h x0 x4 x5 x6 x7 x8 = some o) : Le h o := by
  exact moX8_writeLeft_157 hE
set_option maxRecDepth 20000 in
theorem moX8_writeLeft_124 {o : Hp} {k_18 : Hp → Nat → Nat → Int32 → Int32 → Nat → Int32 → Int32 → Int32 → Int32 → Int32 → Option (Hp)} {F : Nat} (mk_18 : ∀ (h : Hp) (x0 : Nat) (x1 : Nat) (x2 : Int32) (x3 : Int32) (x4 : Nat) (x5 : Int32) (x6 : Int32) (x7 : Int32) (x8 : Int32) (x9 : Int32), k_18 h x0 x1 x2 x3 x4 x5 x6 x7 x8 x9 = some o → Le h o) {h : Hp} {x0 : Nat} {x1 : Nat} {x2 : Int32} {x3 : Int32} {x4 : Nat} {x5 : Int32} {x6 : Int32} {x7 : Int32} {x8 : Int32} {x9 : Int32} (hE : sX8_writeLeft_124 F k_18 h x0 x1 x2 x3 x4 x5 x6 x7 x8 x9 = some o) : Le h o := by
  obtain ⟨v_1, ev_1, hE⟩ := nm_e2 hE
  exact mk_18 _ _ _ _ _ _ _ _ _ _ _ hE
set_option maxRecDepth 20000 in
theorem moX8_writeLeft_122 {o : Hp} {k_18 : Hp → Nat → Nat → Int32 → Int32 → Nat → Int32 → Int32 → Int32 → Int32 → Int32 → Option (Hp)} {F : Nat} (mk_18 : ∀ (h : Hp) (x0 : Nat) (x1 : Nat) (x2 : Int32) (x3 : Int32) (x4 : Nat) (x5 : Int32) (x6 : Int32) (x7 : Int32) (x8 : Int32) (x9 : Int32), k_18 h x0 x1 x2 x3 x4 x5 x6 x7 x8 x9 = some o → Le h o) {h : Hp} {x0 : Nat} {x1 : Nat} {x2 : Int32} {x3 : Int32} {x4 : Nat} {x5 : Int32} {x6 : Int32} {x7 : Int32} {x9 : Int32} {t0 : Int32} (hE : sX8_writeLeft_122 F k_18 h x0 x1 x2 x3 x4 x5 x6 x7 x9 t0 = some o) : Le h o := by
  exact moX8_writeLeft_124 mk_18 hE
set_option maxRecDepth 20000 in
theorem moX8_writeLeft_117 {o : Hp} {k_18 : Hp → Nat → Nat → Int32 → Int32 → Nat → Int32 → Int32 → Int32 → Int32 → Int32 → Option (Hp)} {F : Nat} (mk_18 : ∀ (h : Hp) (x0 : Nat) (x1 : Nat) (x2 : Int32) (x3 : Int32) (x4 : Nat) (x5 : Int32) (x6 : Int32) (x7 : Int32) (x8 : Int32) (x9 : Int32), k_18 h x0 x1 x2 x3 x4 x5 x6 x7 x8 x9 = some o → Le h o) {h : Hp} {x0 : Nat} {x1 : Nat} {x2 : Int32} {x3 : Int32} {x4 : Nat} {x5 : Int32} {x6 : Int32} {x7 : Int32} {x9 : Int32} (hE : sX8_writeLeft_117 F k_18 h x0 x1 x2 x3 x4 x5 x6 x7 x9 = some o) : Le h o := by
  exact moX8_writeLeft_122 mk_18 hE
set_option maxRecDepth 20000 in
theorem moX8_writeLeft_87 {o : Hp} {k_18 : Hp → Nat → Nat → Int32 → Int32 → Nat → Int32 → Int32 → Int32 → Int32 → Int32 → Option (Hp)} {F : Nat} (mk_18 : ∀ (h : Hp) (x0 : Nat) (x1 : Nat) (x2 : Int32) (x3 : Int32) (x4 : Nat) (x5 : Int32) (x6 : Int32) (x7 : Int32) (x8 : Int32) (x9 : Int32), k_18 h x0 x1 x2 x3 x4 x5 x6 x7 x8 x9 = some o → Le h o) {h : Hp} {x0 : Nat} {x1 : Nat} {x2 : Int32} {x3 : Int32} {x4 : Nat} {x5 : Int32} {x6 : Int32} {x8 : Int32} {x9 : Int32} {x10 : Int32} {t0 : Int32} (hE : sX8_writeLeft_87 F k_18 h x0 x1 x2 x3 x4 x5 x6 x8 x9 x10 t0 = some o) : Le h o := by
  rcases br_e hE with ⟨_, hE⟩ | ⟨_, hE⟩
  · obtain ⟨r_2, er_2, hE⟩ := cl_e hE
    obtain ⟨r_3, er_3, hE⟩ := cl_e hE
    obtain ⟨g_4, hE⟩ := gd_e hE
    obtain ⟨r_5, er_5, hE⟩ := cl_e hE
    obtain ⟨r_6, er_6, hE⟩ := cl_e hE
    obtain ⟨g_7, hE⟩ := gd_e hE
    rcases br_e hE with ⟨_, hE⟩ | ⟨_, hE⟩
    · exact moX8_writeLeft_117 mk_18 hE
    · exact moX8_writeLeft_122 mk_18 hE
  · exact moX8_writeLeft_117 mk_18 hE
set_option maxRecDepth 20000 in
theorem moX8_writeLeft_82 {o : Hp} {k_18 : Hp → Nat → Nat → Int32 → Int32 → Nat → Int32 → Int32 → Int32 → Int32 → Int32 → Option (Hp)} {F : Nat} (mk_18 : ∀ (h : Hp) (x0 : Nat) (x1 : Nat) (x2 : Int32) (x3 : Int32) (x4 : Nat) (x5 : Int32) (x6 : Int32) (x7 : Int32) (x8 : Int32) (x9 : Int32), k_18 h x0 x1 x2 x3 x4 x5 x6 x7 x8 x9 = some o → Le h o) {h : Hp} {x0 : Nat} {x1 : Nat} {x2 : Int32} {x3 : Int32} {x4 : Nat} {x5 : Int32} {x6 : Int32} {x8 : Int32} {x9 : Int32} {x10 : Int32} (hE : sX8_writeLeft_82 F k_18 h x0 x1 x2 x3 x4 x5 x6 x8 x9 x10 = some o) : Le h o := by
  exact moX8_writeLeft_87 mk_18 hE
set_option maxRecDepth 20000 in
theorem moX8_writeLeft_18 {o : Hp} {F : Nat} : ∀ (f : Nat) {h : Hp} {x0 : Nat} {x1 : Nat} {x2 : Int32} {x3 : Int32} {x4 : Nat} {x5 : Int32} {x6 : Int32} {x7 : Int32} {x8 : Int32} {x9 : Int32}, sX8_writeLeft_18 F f h x0 x1 x2 x3 x4 x5 x6 x7 x8 x9 = some o → Le h o := by
  intro f
  induction f with
  | zero =>
    intro h x0 x1 x2 x3 x4 x5 x6 x7 x8 x9 hE
    rw [sX8_writeLeft_18] at hE
    cases hE
  | succ f ih =>
    intro h x0 x1 x2 x3 x4 x5 x6 x7 x8 x9 hE
    rw [sX8_writeLeft_18] at hE
    have mk_18 : ∀ (h : Hp) (x0 : Nat) (x1 : Nat) (x2 : Int32) (x3 : Int32) (x4 : Nat) (x5 : Int32) (x6 : Int32) (x7 : Int32) (x8 : Int32) (x9 : Int32), sX8_writeLeft_18 F f h x0 x1 x2 x3 x4 x5 x6 x7 x8 x9 = some o → Le h o := fun h x0 x1 x2 x3 x4 x5 x6 x7 x8 x9 hE => ih hE
    rcases br_e hE with ⟨_, hE⟩ | ⟨_, hE⟩
    · obtain ⟨o_2, eo_2, hE⟩ := cl_e hE
      refine (moX5_manOf eo_2).tr ?_
      obtain ⟨r_3, er_3, hE⟩ := cl_e hE
      rcases br_e hE with ⟨_, hE⟩ | ⟨_, hE⟩
      · obtain ⟨o_5, eo_5, hE⟩ := cl_e hE
        refine (moX5_takenBy eo_5).tr ?_
        rcases br_e hE with ⟨_, hE⟩ | ⟨_, hE⟩
        · exact moX8_writeLeft_156 hE
        · exact moX8_writeLeft_157 hE
      · exact moX8_writeLeft_156 hE
    · obtain ⟨g_7, hE⟩ := gd_e hE
      obtain ⟨o_8, eo_8, hE⟩ := cl_e hE
      refine (moX5_leftBy eo_8).tr ?_
      rcases br_e hE with ⟨_, hE⟩ | ⟨_, hE⟩
      · exact moX8_writeLeft_124 mk_18 hE
      · obtain ⟨g_10, hE⟩ := gd_e hE
        obtain ⟨o_11, eo_11, hE⟩ := cl_e hE
        refine (moX8_isRival eo_11).tr ?_
        rcases br_e hE with ⟨_, hE⟩ | ⟨_, hE⟩
        · exact moX8_writeLeft_124 mk_18 hE
        · rcases br_e hE with ⟨_, hE⟩ | ⟨_, hE⟩
          · obtain ⟨r_14, er_14, hE⟩ := cl_e hE
            obtain ⟨r_15, er_15, hE⟩ := cl_e hE
            obtain ⟨g_16, hE⟩ := gd_e hE
            obtain ⟨r_17, er_17, hE⟩ := cl_e hE
            obtain ⟨r_18, er_18, hE⟩ := cl_e hE
            obtain ⟨g_19, hE⟩ := gd_e hE
            rcases br_e hE with ⟨_, hE⟩ | ⟨_, hE⟩
            · exact moX8_writeLeft_82 mk_18 hE
            · exact moX8_writeLeft_87 mk_18 hE
          · exact moX8_writeLeft_82 mk_18 hE
set_option maxRecDepth 20000 in
theorem moX8_writeLeft {o : Hp} {F : Nat} {h : Hp} {x0 : Nat} {x1 : Nat} {x2 : Int32} {x3 : Int32} {x4 : Nat} (hE : sX8_writeLeft F h x0 x1 x2 x3 x4 = some o) : Le h o := by
  obtain ⟨o_1, eo_1, hE⟩ := cl_e hE
  refine (moX5_leftBy eo_1).tr ?_
  exact moX8_writeLeft_18 _ hE
set_option maxRecDepth 20000 in
theorem bX8_writeLeft_254 {p : Program} {l : Launch} {e : Env} {s : State} {m : MethodId} {args : Array Value} {below : List Frame} {meth : Method} {c : Code} {X : Ec} {h0 : Hp} {o : Hp} {F : Nat} (C : Cx X p s m args meth c RX8 cX8_writeLeft 12 none "writeLeft") {h : Hp} {H : Heap} {locs : List Loc} (hkm : Km h0 h) (hW : Wx X h H) (hZ : va_S (aA (eB X)) s.heap H locs) (ls : Array Slot) (hl : lv_has ls 12 []) (hE : sX8_writeLeft_254 F h  = some o) : W p l e (rm 2 41) s m args below meth c H locs 0 0 (MQ below (QV X h0 o) args s 0 0 (aA (eB X))) (F0 m 254 ls []) := by
  exact x_vret C rfl hW hZ hkm hE dX8_writeLeft_254
set_option maxRecDepth 20000 in
theorem bX8_writeLeft_231 {p : Program} {l : Launch} {e : Env} {s : State} {m : MethodId} {args : Array Value} {below : List Frame} {meth : Method} {c : Code} {X : Ec} {h0 : Hp} {o : Hp} {F : Nat} (C : Cx X p s m args meth c RX8 cX8_writeLeft 12 none "writeLeft") {h : Hp} {x0 : Nat} {x4 : Nat} {x5 : Int32} {x11 : Int32} {H : Heap} {locs : List Loc} (k_x0 : hK h x0 = 8) (k_x4 : hK h x4 = 9) (hkm : Km h0 h) (hW : Wx X h H) (hZ : va_S (aA (eB X)) s.heap H locs) (ls : Array Slot) (hl : lv_has ls 12 [(0, .ref x0), (4, .ref x4), (5, .int x5), (11, .int x11)]) (hE : sX8_writeLeft_231 F h x0 x4 x5 x11 = some o) : W p l e (rm 2 41) s m args below meth c H locs 0 0 (MQ below (QV X h0 o) args s 0 0 (aA (eB X))) (F0 m 231 ls []) := by
  refine lv_iload C.1 C.2.1 dX8_writeLeft_231 (lv_at hl 3 rfl) ?_
  refine lv_if_eq (tgt := 254) C.1 C.2.1 dX8_writeLeft_233 (by decide) (fun c_1 => ?_) (fun c_1 => ?_)
  · have hE := br_p hE c_1
    exact bX8_writeLeft_254 C hkm hW hZ _ (lv_sub hl [] rfl) hE
  · have hE := br_n hE c_1
    refine lv_aload C.1 C.2.1 dX8_writeLeft_236 (lv_at hl 1 rfl) ?_
    refine lv_bipush (v := (49 : Int32)) C.1 C.2.1 dX8_writeLeft_238 (by decide) ?_
    refine lv_aload_n C.1 C.2.1 dX8_writeLeft_240 rfl (lv_at hl 0 rfl) ?_
    obtain ⟨r_2, er_2, hE⟩ := cl_e hE
    refine gf_X8_27 C hW k_x0 er_2 dX8_writeLeft_241 (fun k_r_2 => ?_)
    obtain ⟨r_3, er_3, hE⟩ := cl_e hE
    refine gf_X8_94 C hW k_r_2 er_3 dX8_writeLeft_244 (fun k_r_3 => ?_)
    refine lv_iload C.1 C.2.1 dX8_writeLeft_247 (lv_at hl 2 rfl) ?_
    obtain ⟨g_4, hE⟩ := gd_e hE
    refine y_iald C hW k_r_3 g_4 dX8_writeLeft_249 ?_
    refine lv_iadd C.1 C.2.1 dX8_writeLeft_250 ?_
    obtain ⟨o_5, eo_5, hE⟩ := cl_e hE
    refine x_kV (o := o_5) (z_runV (As := [.int ((49 : Int32) + (hI h r_3 x5.toNatClampNeg))]) (rest := []) C (ct_X9_append l X k_x4 eo_5) cw_X8_63 hW hZ k_x4 (by decide) rfl rfl rfl hl.1 (Nat.le_of_ble_eq_true rfl) rfl dX8_writeLeft_251 ⟨Nat.le_of_ble_eq_true rfl, Nat.le_of_ble_eq_true rfl⟩ ⟨Nat.le_refl _, Nat.le_refl _⟩) hZ (fun _ _ hW km hZ => ?_)
    replace hkm := hkm.tr km
    replace k_x0 := km.at k_x0 (by decide)
    replace k_x4 := km.at k_x4 (by decide)
    exact bX8_writeLeft_254 C hkm hW hZ _ (lv_sub hl [] rfl) hE
set_option maxRecDepth 20000 in
theorem bX8_writeLeft_206 {p : Program} {l : Launch} {e : Env} {s : State} {m : MethodId} {args : Array Value} {below : List Frame} {meth : Method} {c : Code} {X : Ec} {h0 : Hp} {o : Hp} {F : Nat} (C : Cx X p s m args meth c RX8 cX8_writeLeft 12 none "writeLeft") {h : Hp} {x0 : Nat} {x4 : Nat} {x5 : Int32} {x10 : Int32} {t0 : Int32} {H : Heap} {locs : List Loc} (k_x0 : hK h x0 = 8) (k_x4 : hK h x4 = 9) (hkm : Km h0 h) (hW : Wx X h H) (hZ : va_S (aA (eB X)) s.heap H locs) (ls : Array Slot) (hl : lv_has ls 12 [(0, .ref x0), (4, .ref x4), (5, .int x5), (10, .int x10)]) (hE : sX8_writeLeft_206 F h x0 x4 x5 x10 t0 = some o) : W p l e (rm 2 41) s m args below meth c H locs 0 0 (MQ below (QV X h0 o) args s 0 0 (aA (eB X))) (F0 m 206 ls [.int t0]) := by
  refine lv_istore (lv' := [(11, .int t0), (0, .ref x0), (4, .ref x4), (5, .int x5), (10, .int x10)]) C.1 C.2.1 dX8_writeLeft_206 hl (by decide) rfl (fun ls hl => ?_)
  refine lv_iload C.1 C.2.1 dX8_writeLeft_208 (lv_at hl 4 rfl) ?_
  refine lv_if_eq (tgt := 231) C.1 C.2.1 dX8_writeLeft_210 (by decide) (fun c_1 => ?_) (fun c_1 => ?_)
  · have hE := br_p hE c_1
    exact bX8_writeLeft_231 C k_x0 k_x4 hkm hW hZ _ (lv_sub hl [1, 2, 3, 0] rfl) hE
  · have hE := br_n hE c_1
    refine lv_aload C.1 C.2.1 dX8_writeLeft_213 (lv_at hl 2 rfl) ?_
    refine lv_bipush (v := (97 : Int32)) C.1 C.2.1 dX8_writeLeft_215 (by decide) ?_
    refine lv_aload_n C.1 C.2.1 dX8_writeLeft_217 rfl (lv_at hl 1 rfl) ?_
    obtain ⟨r_2, er_2, hE⟩ := cl_e hE
    refine gf_X8_27 C hW k_x0 er_2 dX8_writeLeft_218 (fun k_r_2 => ?_)
    obtain ⟨r_3, er_3, hE⟩ := cl_e hE
    refine gf_X8_90 C hW k_r_2 er_3 dX8_writeLeft_221 (fun k_r_3 => ?_)
    refine lv_iload C.1 C.2.1 dX8_writeLeft_224 (lv_at hl 3 rfl) ?_
    obtain ⟨g_4, hE⟩ := gd_e hE
    refine y_iald C hW k_r_3 g_4 dX8_writeLeft_226 ?_
    refine lv_iadd C.1 C.2.1 dX8_writeLeft_227 ?_
    obtain ⟨o_5, eo_5, hE⟩ := cl_e hE
    refine x_kV (o := o_5) (z_runV (As := [.int ((97 : Int32) + (hI h r_3 x5.toNatClampNeg))]) (rest := []) C (ct_X9_append l X k_x4 eo_5) cw_X8_63 hW hZ k_x4 (by decide) rfl rfl rfl hl.1 (Nat.le_of_ble_eq_true rfl) rfl dX8_writeLeft_228 ⟨Nat.le_of_ble_eq_true rfl, Nat.le_of_ble_eq_true rfl⟩ ⟨Nat.le_refl _, Nat.le_refl _⟩) hZ (fun _ _ hW km hZ => ?_)
    replace hkm := hkm.tr km
    replace k_x0 := km.at k_x0 (by decide)
    replace k_x4 := km.at k_x4 (by decide)
    exact bX8_writeLeft_231 C k_x0 k_x4 hkm hW hZ _ (lv_sub hl [1, 2, 3, 0] rfl) hE
set_option maxRecDepth 20000 in
theorem bX8_writeLeft_205 {p : Program} {l : Launch} {e : Env} {s : State} {m : MethodId} {args : Array Value} {below : List Frame} {meth : Method} {c : Code} {X : Ec} {h0 : Hp} {o : Hp} {F : Nat} (C : Cx X p s m args meth c RX8 cX8_writeLeft 12 none "writeLeft") {h : Hp} {x0 : Nat} {x4 : Nat} {x5 : Int32} {x10 : Int32} {H : Heap} {locs : List Loc} (k_x0 : hK h x0 = 8) (k_x4 : hK h x4 = 9) (hkm : Km h0 h) (hW : Wx X h H) (hZ : va_S (aA (eB X)) s.heap H locs) (ls : Array Slot) (hl : lv_has ls 12 [(0, .ref x0), (4, .ref x4), (5, .int x5), (10, .int x10)]) (hE : sX8_writeLeft_205 F h x0 x4 x5 x10 = some o) : W p l e (rm 2 41) s m args below meth c H locs 0 0 (MQ below (QV X h0 o) args s 0 0 (aA (eB X))) (F0 m 205 ls []) := by
  refine lv_iconst (v := (0 : Int32)) C.1 C.2.1 dX8_writeLeft_205 (by decide) ?_
  exact bX8_writeLeft_206 C k_x0 k_x4 hkm hW hZ _ (lv_sub hl [0, 1, 2, 3] rfl) hE
set_option maxRecDepth 20000 in
theorem bX8_writeLeft_201 {p : Program} {l : Launch} {e : Env} {s : State} {m : MethodId} {args : Array Value} {below : List Frame} {meth : Method} {c : Code} {X : Ec} {h0 : Hp} {o : Hp} {F : Nat} (C : Cx X p s m args meth c RX8 cX8_writeLeft 12 none "writeLeft") {h : Hp} {x0 : Nat} {x4 : Nat} {x5 : Int32} {x10 : Int32} {H : Heap} {locs : List Loc} (k_x0 : hK h x0 = 8) (k_x4 : hK h x4 = 9) (hkm : Km h0 h) (hW : Wx X h H) (hZ : va_S (aA (eB X)) s.heap H locs) (ls : Array Slot) (hl : lv_has ls 12 [(0, .ref x0), (4, .ref x4), (5, .int x5), (10, .int x10)]) (hE : sX8_writeLeft_201 F h x0 x4 x5 x10 = some o) : W p l e (rm 2 41) s m args below meth c H locs 0 0 (MQ below (QV X h0 o) args s 0 0 (aA (eB X))) (F0 m 201 ls []) := by
  refine lv_iconst (v := (1 : Int32)) C.1 C.2.1 dX8_writeLeft_201 (by decide) ?_
  refine lv_goto (tgt := 206) C.1 C.2.1 dX8_writeLeft_202 (by decide) ?_
  exact bX8_writeLeft_206 C k_x0 k_x4 hkm hW hZ _ (lv_sub hl [0, 1, 2, 3] rfl) hE
set_option maxRecDepth 20000 in
theorem bX8_writeLeft_184 {p : Program} {l : Launch} {e : Env} {s : State} {m : MethodId} {args : Array Value} {below : List Frame} {meth : Method} {c : Code} {X : Ec} {h0 : Hp} {o : Hp} {F : Nat} (C : Cx X p s m args meth c RX8 cX8_writeLeft 12 none "writeLeft") {h : Hp} {x0 : Nat} {x4 : Nat} {x5 : Int32} {x6 : Int32} {x7 : Int32} {x9 : Int32} {t0 : Int32} {H : Heap} {locs : List Loc} (k_x0 : hK h x0 = 8) (k_x4 : hK h x4 = 9) (hkm : Km h0 h) (hW : Wx X h H) (hZ : va_S (aA (eB X)) s.heap H locs) (ls : Array Slot) (hl : lv_has ls 12 [(0, .ref x0), (4, .ref x4), (5, .int x5), (6, .int x6), (7, .int x7), (9, .int x9)]) (hE : sX8_writeLeft_184 F h x0 x4 x5 x6 x7 x9 t0 = some o) : W p l e (rm 2 41) s m args below meth c H locs 0 0 (MQ below (QV X h0 o) args s 0 0 (aA (eB X))) (F0 m 184 ls [.int t0]) := by
  refine lv_istore (lv' := [(10, .int t0), (0, .ref x0), (4, .ref x4), (5, .int x5), (6, .int x6), (7, .int x7), (9, .int x9)]) C.1 C.2.1 dX8_writeLeft_184 hl (by decide) rfl (fun ls hl => ?_)
  refine lv_iload C.1 C.2.1 dX8_writeLeft_186 (lv_at hl 5 rfl) ?_
  refine lv_if_eq (tgt := 205) C.1 C.2.1 dX8_writeLeft_188 (by decide) (fun c_1 => ?_) (fun c_1 => ?_)
  · have hE := br_p hE c_1
    exact bX8_writeLeft_205 C k_x0 k_x4 hkm hW hZ _ (lv_sub hl [1, 2, 3, 0] rfl) hE
  · have hE := br_n hE c_1
    refine lv_iload C.1 C.2.1 dX8_writeLeft_191 (lv_at hl 6 rfl) ?_
    refine lv_if_ne (tgt := 201) C.1 C.2.1 dX8_writeLeft_193 (by decide) (fun c_2 => ?_) (fun c_2 => ?_)
    · have hE := br_n hE c_2
      exact bX8_writeLeft_201 C k_x0 k_x4 hkm hW hZ _ (lv_sub hl [1, 2, 3, 0] rfl) hE
    · have hE := br_p hE c_2
      refine lv_iload C.1 C.2.1 dX8_writeLeft_196 (lv_at hl 4 rfl) ?_
      refine lv_if_eq (tgt := 205) C.1 C.2.1 dX8_writeLeft_198 (by decide) (fun c_3 => ?_) (fun c_3 => ?_)
      · have hE := br_p hE c_3
        exact bX8_writeLeft_205 C k_x0 k_x4 hkm hW hZ _ (lv_sub hl [1, 2, 3, 0] rfl) hE
      · have hE := br_n hE c_3
        exact bX8_writeLeft_201 C k_x0 k_x4 hkm hW hZ _ (lv_sub hl [1, 2, 3, 0] rfl) hE
set_option maxRecDepth 20000 in
theorem bX8_writeLeft_179 {p : Program} {l : Launch} {e : Env} {s : State} {m : MethodId} {args : Array Value} {below : List Frame} {meth : Method} {c : Code} {X : Ec} {h0 : Hp} {o : Hp} {F : Nat} (C : Cx X p s m args meth c RX8 cX8_writeLeft 12 none "writeLeft") {h : Hp} {x0 : Nat} {x4 : Nat} {x5 : Int32} {x6 : Int32} {x7 : Int32} {x9 : Int32} {H : Heap} {locs : List Loc} (k_x0 : hK h x0 = 8) (k_x4 : hK h x4 = 9) (hkm : Km h0 h) (hW : Wx X h H) (hZ : va_S (aA (eB X)) s.heap H locs) (ls : Array Slot) (hl : lv_has ls 12 [(0, .ref x0), (4, .ref x4), (5, .int x5), (6, .int x6), (7, .int x7), (9, .int x9)]) (hE : sX8_writeLeft_179 F h x0 x4 x5 x6 x7 x9 = some o) : W p l e (rm 2 41) s m args below meth c H locs 0 0 (MQ below (QV X h0 o) args s 0 0 (aA (eB X))) (F0 m 179 ls []) := by
  refine lv_iconst (v := (1 : Int32)) C.1 C.2.1 dX8_writeLeft_179 (by decide) ?_
  refine lv_goto (tgt := 184) C.1 C.2.1 dX8_writeLeft_180 (by decide) ?_
  exact bX8_writeLeft_184 C k_x0 k_x4 hkm hW hZ _ (lv_sub hl [0, 1, 2, 3, 4, 5] rfl) hE
set_option maxRecDepth 20000 in
theorem bX8_writeLeft_183 {p : Program} {l : Launch} {e : Env} {s : State} {m : MethodId} {args : Array Value} {below : List Frame} {meth : Method} {c : Code} {X : Ec} {h0 : Hp} {o : Hp} {F : Nat} (C : Cx X p s m args meth c RX8 cX8_writeLeft 12 none "writeLeft") {h : Hp} {x0 : Nat} {x4 : Nat} {x5 : Int32} {x6 : Int32} {x7 : Int32} {x9 : Int32} {H : Heap} {locs : List Loc} (k_x0 : hK h x0 = 8) (k_x4 : hK h x4 = 9) (hkm : Km h0 h) (hW : Wx X h H) (hZ : va_S (aA (eB X)) s.heap H locs) (ls : Array Slot) (hl : lv_has ls 12 [(0, .ref x0), (4, .ref x4), (5, .int x5), (6, .int x6), (7, .int x7), (9, .int x9)]) (hE : sX8_writeLeft_183 F h x0 x4 x5 x6 x7 x9 = some o) : W p l e (rm 2 41) s m args below meth c H locs 0 0 (MQ below (QV X h0 o) args s 0 0 (aA (eB X))) (F0 m 183 ls []) := by
  refine lv_iconst (v := (0 : Int32)) C.1 C.2.1 dX8_writeLeft_183 (by decide) ?_
  exact bX8_writeLeft_184 C k_x0 k_x4 hkm hW hZ _ (lv_sub hl [0, 1, 2, 3, 4, 5] rfl) hE
set_option maxRecDepth 20000 in
theorem bX8_writeLeft_157 {p : Program} {l : Launch} {e : Env} {s : State} {m : MethodId} {args : Array Value} {below : List Frame} {meth : Method} {c : Code} {X : Ec} {h0 : Hp} {o : Hp} {F : Nat} (C : Cx X p s m args meth c RX8 cX8_writeLeft 12 none "writeLeft") {h : Hp} {x0 : Nat} {x4 : Nat} {x5 : Int32} {x6 : Int32} {x7 : Int32} {x8 : Int32} {t0 : Int32} {H : Heap} {locs : List Loc} (k_x0 : hK h x0 = 8) (k_x4 : hK h x4 = 9) (hkm : Km h0 h) (hW : Wx X h H) (hZ : va_S (aA (eB X)) s.heap H locs) (ls : Array Slot) (hl : lv_has ls 12 [(0, .ref x0), (4, .ref x4), (5, .int x5), (6, .int x6), (7, .int x7), (8, .int x8)]) (hE : sX8_writeLeft_157 F h x0 x4 x5 x6 x7 x8 t0 = some o) : W p l e (rm 2 41) s m args below meth c H locs 0 0 (MQ below (QV X h0 o) args s 0 0 (aA (eB X))) (F0 m 157 ls [.int t0]) := by
  refine lv_istore (lv' := [(9, .int t0), (0, .ref x0), (4, .ref x4), (5, .int x5), (6, .int x6), (7, .int x7), (8, .int x8)]) C.1 C.2.1 dX8_writeLeft_157 hl (by decide) rfl (fun ls hl => ?_)
  refine lv_iload C.1 C.2.1 dX8_writeLeft_159 (lv_at hl 0 rfl) ?_
  refine lv_if_ne (tgt := 179) C.1 C.2.1 dX8_writeLeft_161 (by decide) (fun c_1 => ?_) (fun c_1 => ?_)
  · have hE := br_n hE c_1
    exact bX8_writeLeft_179 C k_x0 k_x4 hkm hW hZ _ (lv_sub hl [1, 2, 3, 4, 5, 0] rfl) hE
  · have hE := br_p hE c_1
    refine lv_iload C.1 C.2.1 dX8_writeLeft_164 (lv_at hl 4 rfl) ?_
    refine lv_if_eq (tgt := 183) C.1 C.2.1 dX8_writeLeft_166 (by decide) (fun c_2 => ?_) (fun c_2 => ?_)
    · have hE := br_p hE c_2
      exact bX8_writeLeft_183 C k_x0 k_x4 hkm hW hZ _ (lv_sub hl [1, 2, 3, 4, 5, 0] rfl) hE
    · have hE := br_n hE c_2
      refine lv_iload C.1 C.2.1 dX8_writeLeft_169 (lv_at hl 5 rfl) ?_
      refine lv_if_eq (tgt := 179) C.1 C.2.1 dX8_writeLeft_171 (by decide) (fun c_3 => ?_) (fun c_3 => ?_)
      · have hE := br_p hE c_3
        exact bX8_writeLeft_179 C k_x0 k_x4 hkm hW hZ _ (lv_sub hl [1, 2, 3, 4, 5, 0] rfl) hE
      · have hE := br_n hE c_3
        refine lv_iload C.1 C.2.1 dX8_writeLeft_174 (lv_at hl 6 rfl) ?_
        refine lv_if_eq (tgt := 183) C.1 C.2.1 dX8_writeLeft_176 (by decide) (fun c_4 => ?_) (fun c_4 => ?_)
        · have hE := br_p hE c_4
          exact bX8_writeLeft_183 C k_x0 k_x4 hkm hW hZ _ (lv_sub hl [1, 2, 3, 4, 5, 0] rfl) hE
        · have hE := br_n hE c_4
          exact bX8_writeLeft_179 C k_x0 k_x4 hkm hW hZ _ (lv_sub hl [1, 2, 3, 4, 5, 0] rfl) hE
set_option maxRecDepth 20000 in
theorem bX8_writeLeft_156 {p : Program} {l : Launch} {e : Env} {s : State} {m : MethodId} {args : Array Value} {below : List Frame} {meth : Method} {c : Code} {X : Ec} {h0 : Hp} {o : Hp} {F : Nat} (C : Cx X p s m args meth c RX8 cX8_writeLeft 12 none "writeLeft") {h : Hp} {x0 : Nat} {x4 : Nat} {x5 : Int32} {x6 : Int32} {x7 : Int32} {x8 : Int32} {H : Heap} {locs : List Loc} (k_x0 : hK h x0 = 8) (k_x4 : hK h x4 = 9) (hkm : Km h0 h) (hW : Wx X h H) (hZ : va_S (aA (eB X)) s.heap H locs) (ls : Array Slot) (hl : lv_has ls 12 [(0, .ref x0), (4, .ref x4), (5, .int x5), (6, .int x6), (7, .int x7), (8, .int x8)]) (hE : sX8_writeLeft_156 F h x0 x4 x5 x6 x7 x8 = some o) : W p l e (rm 2 41) s m args below meth c H locs 0 0 (MQ below (QV X h0 o) args s 0 0 (aA (eB X))) (F0 m 156 ls []) := by
  refine lv_iconst (v := (0 : Int32)) C.1 C.2.1 dX8_writeLeft_156 (by decide) ?_
  exact bX8_writeLeft_157 C k_x0 k_x4 hkm hW hZ _ (lv_sub hl [0, 1, 2, 3, 4, 5] rfl) hE
set_option maxRecDepth 20000 in
theorem bX8_writeLeft_124 {p : Program} {l : Launch} {e : Env} {s : State} {m : MethodId} {args : Array Value} {below : List Frame} {meth : Method} {c : Code} {X : Ec} {h0 : Hp} {o : Hp} {k_18 : Hp → Nat → Nat → Int32 → Int32 → Nat → Int32 → Int32 → Int32 → Int32 → Int32 → Option (Hp)} {F : Nat} (C : Cx X p s m args meth c RX8 cX8_writeLeft 12 none "writeLeft") (hk_18 : ∀ (h : Hp) (x0 : Nat) (x1 : Nat) (x2 : Int32) (x3 : Int32) (x4 : Nat) (x5 : Int32) (x6 : Int32) (x7 : Int32) (x8 : Int32) (x9 : Int32) (H : Heap) (locs : List Loc), hK h x0 = 8 → hK h x1 = 17 → hK h x4 = 9 → Km h0 h → Wx X h H → va_S (aA (eB X)) s.heap H locs → ∀ (ls : Array Slot), lv_has ls 12 [(0, .ref x0), (1, .ref x1), (2, .int x2), (3, .int x3), (4, .ref x4), (5, .int x5), (6, .int x6), (7, .int x7), (8, .int x8), (9, .int x9)] → k_18 h x0 x1 x2 x3 x4 x5 x6 x7 x8 x9 = some o → W p l e (rm 2 41) s m args below meth c H locs 0 0 (MQ below (QV X h0 o) args s 0 0 (aA (eB X))) (F0 m 18 ls [])) {h : Hp} {x0 : Nat} {x1 : Nat} {x2 : Int32} {x3 : Int32} {x4 : Nat} {x5 : Int32} {x6 : Int32} {x7 : Int32} {x8 : Int32} {x9 : Int32} {H : Heap} {locs : List Loc} (k_x0 : hK h x0 = 8) (k_x1 : hK h x1 = 17) (k_x4 : hK h x4 = 9) (hkm : Km h0 h) (hW : Wx X h H) (hZ : va_S (aA (eB X)) s.heap H locs) (ls : Array Slot) (hl : lv_has ls 12 [(0, .ref x0), (1, .ref x1), (2, .int x2), (3, .int x3), (4, .ref x4), (5, .int x5), (6, .int x6), (7, .int x7), (8, .int x8), (9, .int x9)]) (hE : sX8_writeLeft_124 F k_18 h x0 x1 x2 x3 x4 x5 x6 x7 x8 x9 = some o) : W p l e (rm 2 41) s m args below meth c H locs 0 0 (MQ below (QV X h0 o) args s 0 0 (aA (eB X))) (F0 m 124 ls []) := by
  obtain ⟨v_1, ev_1, hE⟩ := nm_e2 hE
  refine lv_iinc (v := v_1) (lv' := [(9, .int v_1), (0, .ref x0), (1, .ref x1), (2, .int x2), (3, .int x3), (4, .ref x4), (5, .int x5), (6, .int x6), (7, .int x7), (8, .int x8)]) C.1 C.2.1 dX8_writeLeft_124 hl (k := 9) rfl (by rw [ev_1]; rfl) (by decide) rfl (fun ls hl => ?_)
  refine lv_goto (tgt := 18) C.1 C.2.1 dX8_writeLeft_127 (by decide) ?_
  exact hk_18 _ _ _ _ _ _ _ _ _ _ _ _ _ k_x0 k_x1 k_x4 hkm hW hZ _ (lv_sub hl [1, 2, 3, 4, 5, 6, 7, 8, 9, 0] rfl) hE
set_option maxRecDepth 20000 in
theorem bX8_writeLeft_122 {p : Program} {l : Launch} {e : Env} {s : State} {m : MethodId} {args : Array Value} {below : List Frame} {meth : Method} {c : Code} {X : Ec} {h0 : Hp} {o : Hp} {k_18 : Hp → Nat → Nat → Int32 → Int32 → Nat → Int32 → Int32 → Int32 → Int32 → Int32 → Option (Hp)} {F : Nat} (C : Cx X p s m args meth c RX8 cX8_writeLeft 12 none "writeLeft") (hk_18 : ∀ (h : Hp) (x0 : Nat) (x1 : Nat) (x2 : Int32) (x3 : Int32) (x4 : Nat) (x5 : Int32) (x6 : Int32) (x7 : Int32) (x8 : Int32) (x9 : Int32) (H : Heap) (locs : List Loc), hK h x0 = 8 → hK h x1 = 17 → hK h x4 = 9 → Km h0 h → Wx X h H → va_S (aA (eB X)) s.heap H locs → ∀ (ls : Array Slot), lv_has ls 12 [(0, .ref x0), (1, .ref x1), (2, .int x2), (3, .int x3), (4, .ref x4), (5, .int x5), (6, .int x6), (7, .int x7), (8, .int x8), (9, .int x9)] → k_18 h x0 x1 x2 x3 x4 x5 x6 x7 x8 x9 = some o → W p l e (rm 2 41) s m args below meth c H locs 0 0 (MQ below (QV X h0 o) args s 0 0 (aA (eB X))) (F0 m 18 ls [])) {h : Hp} {x0 : Nat} {x1 : Nat} {x2 : Int32} {x3 : Int32} {x4 : Nat} {x5 : Int32} {x6 : Int32} {x7 : Int32} {x9 : Int32} {t0 : Int32} {H : Heap} {locs : List Loc} (k_x0 : hK h x0 = 8) (k_x1 : hK h x1 = 17) (k_x4 : hK h x4 = 9) (hkm : Km h0 h) (hW : Wx X h H) (hZ : va_S (aA (eB X)) s.heap H locs) (ls : Array Slot) (hl : lv_has ls 12 [(0, .ref x0), (1, .ref x1), (2, .int x2), (3, .int x3), (4, .ref x4), (5, .int x5), (6, .int x6), (7, .int x7), (9, .int x9)]) (hE : sX8_writeLeft_122 F k_18 h x0 x1 x2 x3 x4 x5 x6 x7 x9 t0 = some o) : W p l e (rm 2 41) s m args below meth c H locs 0 0 (MQ below (QV X h0 o) args s 0 0 (aA (eB X))) (F0 m 122 ls [.int t0]) := by
  refine lv_istore (lv' := [(8, .int t0), (0, .ref x0), (1, .ref x1), (2, .int x2), (3, .int x3), (4, .ref x4), (5, .int x5), (6, .int x6), (7, .int x7), (9, .int x9)]) C.1 C.2.1 dX8_writeLeft_122 hl (by decide) rfl (fun ls hl => ?_)
  exact bX8_writeLeft_124 C hk_18 k_x0 k_x1 k_x4 hkm hW hZ _ (lv_sub hl [1, 2, 3, 4, 5, 6, 7, 8, 0, 9] rfl) hE
set_option maxRecDepth 20000 in
theorem bX8_writeLeft_117 {p : Program} {l : Launch} {e : Env} {s : State} {m : MethodId} {args : Array Value} {below : List Frame} {meth : Method} {c : Code} {X : Ec} {h0 : Hp} {o : Hp} {k_18 : Hp → Nat → Nat → Int32 → Int32 → Nat → Int32 → Int32 → Int32 → Int32 → Int32 → Option (Hp)} {F : Nat} (C : Cx X p s m args meth c RX8 cX8_writeLeft 12 none "writeLeft") (hk_18 : ∀ (h : Hp) (x0 : Nat) (x1 : Nat) (x2 : Int32) (x3 : Int32) (x4 : Nat) (x5 : Int32) (x6 : Int32) (x7 : Int32) (x8 : Int32) (x9 : Int32) (H : Heap) (locs : List Loc), hK h x0 = 8 → hK h x1 = 17 → hK h x4 = 9 → Km h0 h → Wx X h H → va_S (aA (eB X)) s.heap H locs → ∀ (ls : Array Slot), lv_has ls 12 [(0, .ref x0), (1, .ref x1), (2, .int x2), (3, .int x3), (4, .ref x4), (5, .int x5), (6, .int x6), (7, .int x7), (8, .int x8), (9, .int x9)] → k_18 h x0 x1 x2 x3 x4 x5 x6 x7 x8 x9 = some o → W p l e (rm 2 41) s m args below meth c H locs 0 0 (MQ below (QV X h0 o) args s 0 0 (aA (eB X))) (F0 m 18 ls [])) {h : Hp} {x0 : Nat} {x1 : Nat} {x2 : Int32} {x3 : Int32} {x4 : Nat} {x5 : Int32} {x6 : Int32} {x7 : Int32} {x9 : Int32} {H : Heap} {locs : List Loc} (k_x0 : hK h x0 = 8) (k_x1 : hK h x1 = 17) (k_x4 : hK h x4 = 9) (hkm : Km h0 h) (hW : Wx X h H) (hZ : va_S (aA (eB X)) s.heap H locs) (ls : Array Slot) (hl : lv_has ls 12 [(0, .ref x0), (1, .ref x1), (2, .int x2), (3, .int x3), (4, .ref x4), (5, .int x5), (6, .int x6), (7, .int x7), (9, .int x9)]) (hE : sX8_writeLeft_117 F k_18 h x0 x1 x2 x3 x4 x5 x6 x7 x9 = some o) : W p l e (rm 2 41) s m args below meth c H locs 0 0 (MQ below (QV X h0 o) args s 0 0 (aA (eB X))) (F0 m 117 ls []) := by
  refine lv_iconst (v := (1 : Int32)) C.1 C.2.1 dX8_writeLeft_117 (by decide) ?_
  refine lv_goto (tgt := 122) C.1 C.2.1 dX8_writeLeft_118 (by decide) ?_
  exact bX8_writeLeft_122 C hk_18 k_x0 k_x1 k_x4 hkm hW hZ _ (lv_sub hl [0, 1, 2, 3, 4, 5, 6, 7, 8] rfl) hE
set_option maxRecDepth 20000 in
theorem bX8_writeLeft_87 {p : Program} {l : Launch} {e : Env} {s : State} {m : MethodId} {args : Array Value} {below : List Frame} {meth : Method} {c : Code} {X : Ec} {h0 : Hp} {o : Hp} {k_18 : Hp → Nat → Nat → Int32 → Int32 → Nat → Int32 → Int32 → Int32 → Int32 → Int32 → Option (Hp)} {F : Nat} (C : Cx X p s m args meth c RX8 cX8_writeLeft 12 none "writeLeft") (hk_18 : ∀ (h : Hp) (x0 : Nat) (x1 : Nat) (x2 : Int32) (x3 : Int32) (x4 : Nat) (x5 : Int32) (x6 : Int32) (x7 : Int32) (x8 : Int32) (x9 : Int32) (H : Heap) (locs : List Loc), hK h x0 = 8 → hK h x1 = 17 → hK h x4 = 9 → Km h0 h → Wx X h H → va_S (aA (eB X)) s.heap H locs → ∀ (ls : Array Slot), lv_has ls 12 [(0, .ref x0), (1, .ref x1), (2, .int x2), (3, .int x3), (4, .ref x4), (5, .int x5), (6, .int x6), (7, .int x7), (8, .int x8), (9, .int x9)] → k_18 h x0 x1 x2 x3 x4 x5 x6 x7 x8 x9 = some o → W p l e (rm 2 41) s m args below meth c H locs 0 0 (MQ below (QV X h0 o) args s 0 0 (aA (eB X))) (F0 m 18 ls [])) {h : Hp} {x0 : Nat} {x1 : Nat} {x2 : Int32} {x3 : Int32} {x4 : Nat} {x5 : Int32} {x6 : Int32} {x8 : Int32} {x9 : Int32} {x10 : Int32} {t0 : Int32} {H : Heap} {locs : List Loc} (k_x0 : hK h x0 = 8) (k_x1 : hK h x1 = 17) (k_x4 : hK h x4 = 9) (hkm : Km h0 h) (hW : Wx X h H) (hZ : va_S (aA (eB X)) s.heap H locs) (ls : Array Slot) (hl : lv_has ls 12 [(0, .ref x0), (1, .ref x1), (2, .int x2), (3, .int x3), (4, .ref x4), (5, .int x5), (6, .int x6), (8, .int x8), (9, .int x9), (10, .int x10)]) (hE : sX8_writeLeft_87 F k_18 h x0 x1 x2 x3 x4 x5 x6 x8 x9 x10 t0 = some o) : W p l e (rm 2 41) s m args below meth c H locs 0 0 (MQ below (QV X h0 o) args s 0 0 (aA (eB X))) (F0 m 87 ls [.int t0]) := by
  refine lv_istore (lv' := [(7, .int t0), (0, .ref x0), (1, .ref x1), (2, .int x2), (3, .int x3), (4, .ref x4), (5, .int x5), (6, .int x6), (8, .int x8), (9, .int x9), (10, .int x10)]) C.1 C.2.1 dX8_writeLeft_87 hl (by decide) rfl (fun ls hl => ?_)
  refine lv_iload C.1 C.2.1 dX8_writeLeft_89 (lv_at hl 8 rfl) ?_
  refine lv_if_ne (tgt := 117) C.1 C.2.1 dX8_writeLeft_91 (by decide) (fun c_1 => ?_) (fun c_1 => ?_)
  · have hE := br_n hE c_1
    exact bX8_writeLeft_117 C hk_18 k_x0 k_x1 k_x4 hkm hW hZ _ (lv_sub hl [1, 2, 3, 4, 5, 6, 7, 0, 9] rfl) hE
  · have hE := br_p hE c_1
    refine lv_aload_n C.1 C.2.1 dX8_writeLeft_94 rfl (lv_at hl 1 rfl) ?_
    obtain ⟨r_2, er_2, hE⟩ := cl_e hE
    refine gf_X8_27 C hW k_x0 er_2 dX8_writeLeft_95 (fun k_r_2 => ?_)
    obtain ⟨r_3, er_3, hE⟩ := cl_e hE
    refine gf_X8_94 C hW k_r_2 er_3 dX8_writeLeft_98 (fun k_r_3 => ?_)
    refine lv_iload C.1 C.2.1 dX8_writeLeft_101 (lv_at hl 10 rfl) ?_
    obtain ⟨g_4, hE⟩ := gd_e hE
    refine y_iald C hW k_r_3 g_4 dX8_writeLeft_103 ?_
    refine lv_aload_n C.1 C.2.1 dX8_writeLeft_104 rfl (lv_at hl 1 rfl) ?_
    obtain ⟨r_5, er_5, hE⟩ := cl_e hE
    refine gf_X8_27 C hW k_x0 er_5 dX8_writeLeft_105 (fun k_r_5 => ?_)
    obtain ⟨r_6, er_6, hE⟩ := cl_e hE
    refine gf_X8_94 C hW k_r_5 er_6 dX8_writeLeft_108 (fun k_r_6 => ?_)
    refine lv_iload C.1 C.2.1 dX8_writeLeft_111 (lv_at hl 6 rfl) ?_
    obtain ⟨g_7, hE⟩ := gd_e hE
    refine y_iald C hW k_r_6 g_7 dX8_writeLeft_113 ?_
    refine lv_icmp_ne (tgt := 121) C.1 C.2.1 dX8_writeLeft_114 (by decide) (fun c_8 => ?_) (fun c_8 => ?_)
    · have hE := br_n hE c_8
      refine lv_iconst (v := (0 : Int32)) C.1 C.2.1 dX8_writeLeft_121 (by decide) ?_
      exact bX8_writeLeft_122 C hk_18 k_x0 k_x1 k_x4 hkm hW hZ _ (lv_sub hl [1, 2, 3, 4, 5, 6, 7, 0, 9] rfl) hE
    · have hE := br_p hE c_8
      exact bX8_writeLeft_117 C hk_18 k_x0 k_x1 k_x4 hkm hW hZ _ (lv_sub hl [1, 2, 3, 4, 5, 6, 7, 0, 9] rfl) hE
set_option maxRecDepth 20000 in
theorem bX8_writeLeft_82 {p : Program} {l : Launch} {e : Env} {s : State} {m : MethodId} {args : Array Value} {below : List Frame} {meth : Method} {c : Code} {X : Ec} {h0 : Hp} {o : Hp} {k_18 : Hp → Nat → Nat → Int32 → Int32 → Nat → Int32 → Int32 → Int32 → Int32 → Int32 → Option (Hp)} {F : Nat} (C : Cx X p s m args meth c RX8 cX8_writeLeft 12 none "writeLeft") (hk_18 : ∀ (h : Hp) (x0 : Nat) (x1 : Nat) (x2 : Int32) (x3 : Int32) (x4 : Nat) (x5 : Int32) (x6 : Int32) (x7 : Int32) (x8 : Int32) (x9 : Int32) (H : Heap) (locs : List Loc), hK h x0 = 8 → hK h x1 = 17 → hK h x4 = 9 → Km h0 h → Wx X h H → va_S (aA (eB X)) s.heap H locs → ∀ (ls : Array Slot), lv_has ls 12 [(0, .ref x0), (1, .ref x1), (2, .int x2), (3, .int x3), (4, .ref x4), (5, .int x5), (6, .int x6), (7, .int x7), (8, .int x8), (9, .int x9)] → k_18 h x0 x1 x2 x3 x4 x5 x6 x7 x8 x9 = some o → W p l e (rm 2 41) s m args below meth c H locs 0 0 (MQ below (QV X h0 o) args s 0 0 (aA (eB X))) (F0 m 18 ls [])) {h : Hp} {x0 : Nat} {x1 : Nat} {x2 : Int32} {x3 : Int32} {x4 : Nat} {x5 : Int32} {x6 : Int32} {x8 : Int32} {x9 : Int32} {x10 : Int32} {H : Heap} {locs : List Loc} (k_x0 : hK h x0 = 8) (k_x1 : hK h x1 = 17) (k_x4 : hK h x4 = 9) (hkm : Km h0 h) (hW : Wx X h H) (hZ : va_S (aA (eB X)) s.heap H locs) (ls : Array Slot) (hl : lv_has ls 12 [(0, .ref x0), (1, .ref x1), (2, .int x2), (3, .int x3), (4, .ref x4), (5, .int x5), (6, .int x6), (8, .int x8), (9, .int x9), (10, .int x10)]) (hE : sX8_writeLeft_82 F k_18 h x0 x1 x2 x3 x4 x5 x6 x8 x9 x10 = some o) : W p l e (rm 2 41) s m args below meth c H locs 0 0 (MQ below (QV X h0 o) args s 0 0 (aA (eB X))) (F0 m 82 ls []) := by
  refine lv_iconst (v := (1 : Int32)) C.1 C.2.1 dX8_writeLeft_82 (by decide) ?_
  refine lv_goto (tgt := 87) C.1 C.2.1 dX8_writeLeft_83 (by decide) ?_
  exact bX8_writeLeft_87 C hk_18 k_x0 k_x1 k_x4 hkm hW hZ _ (lv_sub hl [0, 1, 2, 3, 4, 5, 6, 7, 8, 9] rfl) hE
set_option maxRecDepth 20000 in
theorem bX8_writeLeft_18 {p : Program} {l : Launch} {e : Env} {s : State} {m : MethodId} {args : Array Value} {below : List Frame} {meth : Method} {c : Code} {X : Ec} {h0 : Hp} {o : Hp} {F : Nat} (C : Cx X p s m args meth c RX8 cX8_writeLeft 12 none "writeLeft") : ∀ (f : Nat) {h : Hp} {x0 : Nat} {x1 : Nat} {x2 : Int32} {x3 : Int32} {x4 : Nat} {x5 : Int32} {x6 : Int32} {x7 : Int32} {x8 : Int32} {x9 : Int32} {H : Heap} {locs : List Loc} (k_x0 : hK h x0 = 8) (k_x1 : hK h x1 = 17) (k_x4 : hK h x4 = 9), Km h0 h → Wx X h H → va_S (aA (eB X)) s.heap H locs → ∀ (ls : Array Slot), lv_has ls 12 [(0, .ref x0), (1, .ref x1), (2, .int x2), (3, .int x3), (4, .ref x4), (5, .int x5), (6, .int x6), (7, .int x7), (8, .int x8), (9, .int x9)] → sX8_writeLeft_18 F f h x0 x1 x2 x3 x4 x5 x6 x7 x8 x9 = some o → W p l e (rm 2 41) s m args below meth c H locs 0 0 (MQ below (QV X h0 o) args s 0 0 (aA (eB X))) (F0 m 18 ls []) := by
  intro f
  induction f with
  | zero =>
    intro h x0 x1 x2 x3 x4 x5 x6 x7 x8 x9 H locs k_x0 k_x1 k_x4 hkm hW hZ ls hl hE
    rw [sX8_writeLeft_18] at hE
    cases hE
  | succ f ih =>
    intro h x0 x1 x2 x3 x4 x5 x6 x7 x8 x9 H locs k_x0 k_x1 k_x4 hkm hW hZ ls hl hE
    rw [sX8_writeLeft_18] at hE
    have hk_18 : ∀ (h : Hp) (x0 : Nat) (x1 : Nat) (x2 : Int32) (x3 : Int32) (x4 : Nat) (x5 : Int32) (x6 : Int32) (x7 : Int32) (x8 : Int32) (x9 : Int32) (H : Heap) (locs : List Loc), hK h x0 = 8 → hK h x1 = 17 → hK h x4 = 9 → Km h0 h → Wx X h H → va_S (aA (eB X)) s.heap H locs → ∀ (ls : Array Slot), lv_has ls 12 [(0, .ref x0), (1, .ref x1), (2, .int x2), (3, .int x3), (4, .ref x4), (5, .int x5), (6, .int x6), (7, .int x7), (8, .int x8), (9, .int x9)] → sX8_writeLeft_18 F f h x0 x1 x2 x3 x4 x5 x6 x7 x8 x9 = some o → W p l e (rm 2 41) s m args below meth c H locs 0 0 (MQ below (QV X h0 o) args s 0 0 (aA (eB X))) (F0 m 18 ls []) := fun h x0 x1 x2 x3 x4 x5 x6 x7 x8 x9 H locs k_x0 k_x1 k_x4 a b c ls hl hE => ih k_x0 k_x1 k_x4 a b c ls hl hE
    refine lv_iload C.1 C.2.1 dX8_writeLeft_18 (lv_at hl 9 rfl) ?_
    refine lv_iload_n C.1 C.2.1 dX8_writeLeft_20 rfl (lv_at hl 2 rfl) ?_
    refine lv_icmp_ge (tgt := 130) C.1 C.2.1 dX8_writeLeft_21 (by decide) (fun c_1 => ?_) (fun c_1 => ?_)
    · have hE := br_p hE c_1
      refine lv_iload_n C.1 C.2.1 dX8_writeLeft_130 rfl (lv_at hl 3 rfl) ?_
      obtain ⟨o_2, eo_2, hE⟩ := cl_e hE
      refine x_kI (o := o_2) (z_runS (As := [.int x3]) (rest := []) C (ct_X5_manOf l X eo_2) cw_X8_55 hW hZ rfl hl.1 (Nat.le_of_ble_eq_true rfl) rfl dX8_writeLeft_131 ⟨Nat.le_of_ble_eq_true rfl, Nat.le_of_ble_eq_true rfl⟩ ⟨Nat.le_refl _, Nat.le_refl _⟩) hZ (fun _ _ hW km hZ => ?_)
      replace hkm := hkm.tr km
      replace k_x0 := km.at k_x0 (by decide)
      replace k_x1 := km.at k_x1 (by decide)
      replace k_x4 := km.at k_x4 (by decide)
      refine lv_aload_n C.1 C.2.1 dX8_writeLeft_134 rfl (lv_at hl 0 rfl) ?_
      obtain ⟨r_3, er_3, hE⟩ := cl_e hE
      refine gf_X8_27 C hW k_x0 er_3 dX8_writeLeft_135 (fun k_r_3 => ?_)
      refine gf_X8_66 C hW k_r_3 dX8_writeLeft_138 ?_
      refine lv_icmp_ne (tgt := 156) C.1 C.2.1 dX8_writeLeft_141 (by decide) (fun c_4 => ?_) (fun c_4 => ?_)
      · have hE := br_n hE c_4
        exact bX8_writeLeft_156 C k_x0 k_x4 hkm hW hZ _ (lv_sub hl [0, 4, 5, 6, 7, 8] rfl) hE
      · have hE := br_p hE c_4
        refine lv_iload_n C.1 C.2.1 dX8_writeLeft_144 rfl (lv_at hl 3 rfl) ?_
        obtain ⟨o_5, eo_5, hE⟩ := cl_e hE
        refine x_kI (o := o_5) (z_runS (As := [.int x3]) (rest := []) C (ct_X5_takenBy l X eo_5) cw_X8_74 hW hZ rfl hl.1 (Nat.le_of_ble_eq_true rfl) rfl dX8_writeLeft_145 ⟨Nat.le_of_ble_eq_true rfl, Nat.le_of_ble_eq_true rfl⟩ ⟨Nat.le_refl _, Nat.le_refl _⟩) hZ (fun _ _ hW km hZ => ?_)
        replace hkm := hkm.tr km
        replace k_x0 := km.at k_x0 (by decide)
        replace k_x1 := km.at k_x1 (by decide)
        replace k_x4 := km.at k_x4 (by decide)
        refine lv_iconst (v := (-1 : Int32)) C.1 C.2.1 dX8_writeLeft_148 (by decide) ?_
        refine lv_icmp_eq (tgt := 156) C.1 C.2.1 dX8_writeLeft_149 (by decide) (fun c_6 => ?_) (fun c_6 => ?_)
        · have hE := br_p hE c_6
          exact bX8_writeLeft_156 C k_x0 k_x4 hkm hW hZ _ (lv_sub hl [0, 4, 5, 6, 7, 8] rfl) hE
        · have hE := br_n hE c_6
          refine lv_iconst (v := (1 : Int32)) C.1 C.2.1 dX8_writeLeft_152 (by decide) ?_
          refine lv_goto (tgt := 157) C.1 C.2.1 dX8_writeLeft_153 (by decide) ?_
          exact bX8_writeLeft_157 C k_x0 k_x4 hkm hW hZ _ (lv_sub hl [0, 4, 5, 6, 7, 8] rfl) hE
    · have hE := br_n hE c_1
      refine lv_aload_n C.1 C.2.1 dX8_writeLeft_24 rfl (lv_at hl 1 rfl) ?_
      refine lv_iload C.1 C.2.1 dX8_writeLeft_25 (lv_at hl 9 rfl) ?_
      obtain ⟨g_7, hE⟩ := gd_e hE
      refine y_iald C hW k_x1 g_7 dX8_writeLeft_27 ?_
      obtain ⟨o_8, eo_8, hE⟩ := cl_e hE
      refine x_kI (o := o_8) (z_runS (As := [.int (hI h x1 x9.toNatClampNeg)]) (rest := []) C (ct_X5_leftBy l X eo_8) cw_X8_44 hW hZ rfl hl.1 (Nat.le_of_ble_eq_true rfl) rfl dX8_writeLeft_28 ⟨Nat.le_of_ble_eq_true rfl, Nat.le_of_ble_eq_true rfl⟩ ⟨Nat.le_refl _, Nat.le_refl _⟩) hZ (fun _ _ hW km hZ => ?_)
      replace hkm := hkm.tr km
      replace k_x0 := km.at k_x0 (by decide)
      replace k_x1 := km.at k_x1 (by decide)
      replace k_x4 := km.at k_x4 (by decide)
      refine lv_istore (lv' := [(10, .int o_8.1), (0, .ref x0), (1, .ref x1), (2, .int x2), (3, .int x3), (4, .ref x4), (5, .int x5), (6, .int x6), (7, .int x7), (8, .int x8), (9, .int x9)]) C.1 C.2.1 dX8_writeLeft_31 hl (by decide) rfl (fun ls hl => ?_)
      refine lv_iload C.1 C.2.1 dX8_writeLeft_33 (lv_at hl 0 rfl) ?_
      refine lv_iload C.1 C.2.1 dX8_writeLeft_35 (lv_at hl 6 rfl) ?_
      refine lv_icmp_eq (tgt := 124) C.1 C.2.1 dX8_writeLeft_37 (by decide) (fun c_9 => ?_) (fun c_9 => ?_)
      · have hE := br_p hE c_9
        exact bX8_writeLeft_124 C hk_18 k_x0 k_x1 k_x4 hkm hW hZ _ (lv_sub hl [1, 2, 3, 4, 5, 6, 7, 8, 9, 10] rfl) hE
      · have hE := br_n hE c_9
        refine lv_aload_n C.1 C.2.1 dX8_writeLeft_40 rfl (lv_at hl 2 rfl) ?_
        refine lv_iload C.1 C.2.1 dX8_writeLeft_41 (lv_at hl 10 rfl) ?_
        obtain ⟨g_10, hE⟩ := gd_e hE
        refine y_iald C hW k_x1 g_10 dX8_writeLeft_43 ?_
        refine lv_iload_n C.1 C.2.1 dX8_writeLeft_44 rfl (lv_at hl 4 rfl) ?_
        obtain ⟨o_11, eo_11, hE⟩ := cl_e hE
        refine x_kI (o := o_11) (z_runS (As := [.int (hI o_8.2 x1 x9.toNatClampNeg), .int x3]) (rest := []) C (ct_X8_isRival l X eo_11) cw_X8_86 hW hZ rfl hl.1 (Nat.le_of_ble_eq_true rfl) rfl dX8_writeLeft_45 ⟨Nat.le_of_ble_eq_true rfl, Nat.le_of_ble_eq_true rfl⟩ ⟨Nat.le_refl _, Nat.le_refl _⟩) hZ (fun _ _ hW km hZ => ?_)
        replace hkm := hkm.tr km
        replace k_x0 := km.at k_x0 (by decide)
        replace k_x1 := km.at k_x1 (by decide)
        replace k_x4 := km.at k_x4 (by decide)
        refine lv_if_eq (tgt := 124) C.1 C.2.1 dX8_writeLeft_48 (by decide) (fun c_12 => ?_) (fun c_12 => ?_)
        · have hE := br_p hE c_12
          exact bX8_writeLeft_124 C hk_18 k_x0 k_x1 k_x4 hkm hW hZ _ (lv_sub hl [1, 2, 3, 4, 5, 6, 7, 8, 9, 10] rfl) hE
        · have hE := br_n hE c_12
          refine lv_iconst (v := (1 : Int32)) C.1 C.2.1 dX8_writeLeft_51 (by decide) ?_
          refine lv_istore (lv' := [(6, .int (1 : Int32)), (10, .int o_8.1), (0, .ref x0), (1, .ref x1), (2, .int x2), (3, .int x3), (4, .ref x4), (5, .int x5), (7, .int x7), (8, .int x8), (9, .int x9)]) C.1 C.2.1 dX8_writeLeft_52 hl (by decide) rfl (fun ls hl => ?_)
          refine lv_iload C.1 C.2.1 dX8_writeLeft_54 (lv_at hl 8 rfl) ?_
          refine lv_if_ne (tgt := 82) C.1 C.2.1 dX8_writeLeft_56 (by decide) (fun c_13 => ?_) (fun c_13 => ?_)
          · have hE := br_n hE c_13
            exact bX8_writeLeft_82 C hk_18 k_x0 k_x1 k_x4 hkm hW hZ _ (lv_sub hl [2, 3, 4, 5, 6, 7, 0, 9, 10, 1] rfl) hE
          · have hE := br_p hE c_13
            refine lv_aload_n C.1 C.2.1 dX8_writeLeft_59 rfl (lv_at hl 2 rfl) ?_
            obtain ⟨r_14, er_14, hE⟩ := cl_e hE
            refine gf_X8_27 C hW k_x0 er_14 dX8_writeLeft_60 (fun k_r_14 => ?_)
            obtain ⟨r_15, er_15, hE⟩ := cl_e hE
            refine gf_X8_90 C hW k_r_14 er_15 dX8_writeLeft_63 (fun k_r_15 => ?_)
            refine lv_iload C.1 C.2.1 dX8_writeLeft_66 (lv_at hl 1 rfl) ?_
            obtain ⟨g_16, hE⟩ := gd_e hE
            refine y_iald C hW k_r_15 g_16 dX8_writeLeft_68 ?_
            refine lv_aload_n C.1 C.2.1 dX8_writeLeft_69 rfl (lv_at hl 2 rfl) ?_
            obtain ⟨r_17, er_17, hE⟩ := cl_e hE
            refine gf_X8_27 C hW k_x0 er_17 dX8_writeLeft_70 (fun k_r_17 => ?_)
            obtain ⟨r_18, er_18, hE⟩ := cl_e hE
            refine gf_X8_90 C hW k_r_17 er_18 dX8_writeLeft_73 (fun k_r_18 => ?_)
            refine lv_iload C.1 C.2.1 dX8_writeLeft_76 (lv_at hl 7 rfl) ?_
            obtain ⟨g_19, hE⟩ := gd_e hE
            refine y_iald C hW k_r_18 g_19 dX8_writeLeft_78 ?_
            refine lv_icmp_ne (tgt := 86) C.1 C.2.1 dX8_writeLeft_79 (by decide) (fun c_20 => ?_) (fun c_20 => ?_)
            · have hE := br_n hE c_20
              refine lv_iconst (v := (0 : Int32)) C.1 C.2.1 dX8_writeLeft_86 (by decide) ?_
              exact bX8_writeLeft_87 C hk_18 k_x0 k_x1 k_x4 hkm hW hZ _ (lv_sub hl [2, 3, 4, 5, 6, 7, 0, 9, 10, 1] rfl) hE
            · have hE := br_p hE c_20
              exact bX8_writeLeft_82 C hk_18 k_x0 k_x1 k_x4 hkm hW hZ _ (lv_sub hl [2, 3, 4, 5, 6, 7, 0, 9, 10, 1] rfl) hE
set_option maxRecDepth 20000 in
theorem ct_X8_writeLeft (l : Launch) (X : Ec) (F : Nat) {h : Hp} {x0 : Nat} {x1 : Nat} {x2 : Int32} {x3 : Int32} {x4 : Nat} {o : Hp} (k_x0 : hK h x0 = 8) (k_x1 : hK h x1 = 17) (k_x4 : hK h x4 = 9) (hE : sX8_writeLeft F h x0 x1 x2 x3 x4 = some o) : MetV l yX8_writeLeft cX8_writeLeft 12 none 2 41 X [.ref x0, .ref x1, .int x2, .int x3, .ref x4] h o := by
  refine x_met (by decide) (Nat.le_of_ble_eq_true rfl) ?_
  intro p e s m below meth c ls C hl hW hZ
  have hl : lv_has ls 12 [(0, .ref x0), (1, .ref x1), (2, .int x2), (3, .int x3), (4, .ref x4)] := hl
  have hkm : Km h h := Km.rf h
  refine lv_iload_n C.1 C.2.1 dX8_writeLeft_0 rfl (lv_at hl 3 rfl) ?_
  obtain ⟨o_1, eo_1, hE⟩ := cl_e hE
  refine x_kI (o := o_1) (z_runS (As := [.int x3]) (rest := []) C (ct_X5_leftBy l X eo_1) cw_X8_44 hW hZ rfl hl.1 (Nat.le_of_ble_eq_true rfl) rfl dX8_writeLeft_1 ⟨Nat.le_of_ble_eq_true rfl, Nat.le_of_ble_eq_true rfl⟩ ⟨Nat.le_refl _, Nat.le_refl _⟩) hZ (fun _ _ hW km hZ => ?_)
  replace hkm := hkm.tr km
  replace k_x0 := km.at k_x0 (by decide)
  replace k_x1 := km.at k_x1 (by decide)
  replace k_x4 := km.at k_x4 (by decide)
  refine lv_istore (lv' := [(5, .int o_1.1), (0, .ref x0), (1, .ref x1), (2, .int x2), (3, .int x3), (4, .ref x4)]) C.1 C.2.1 dX8_writeLeft_4 hl (by decide) rfl (fun ls hl => ?_)
  refine lv_iconst (v := (0 : Int32)) C.1 C.2.1 dX8_writeLeft_6 (by decide) ?_
  refine lv_istore (lv' := [(6, .int (0 : Int32)), (5, .int o_1.1), (0, .ref x0), (1, .ref x1), (2, .int x2), (3, .int x3), (4, .ref x4)]) C.1 C.2.1 dX8_writeLeft_7 hl (by decide) rfl (fun ls hl => ?_)
  refine lv_iconst (v := (0 : Int32)) C.1 C.2.1 dX8_writeLeft_9 (by decide) ?_
  refine lv_istore (lv' := [(7, .int (0 : Int32)), (6, .int (0 : Int32)), (5, .int o_1.1), (0, .ref x0), (1, .ref x1), (2, .int x2), (3, .int x3), (4, .ref x4)]) C.1 C.2.1 dX8_writeLeft_10 hl (by decide) rfl (fun ls hl => ?_)
  refine lv_iconst (v := (0 : Int32)) C.1 C.2.1 dX8_writeLeft_12 (by decide) ?_
  refine lv_istore (lv' := [(8, .int (0 : Int32)), (7, .int (0 : Int32)), (6, .int (0 : Int32)), (5, .int o_1.1), (0, .ref x0), (1, .ref x1), (2, .int x2), (3, .int x3), (4, .ref x4)]) C.1 C.2.1 dX8_writeLeft_13 hl (by decide) rfl (fun ls hl => ?_)
  refine lv_iconst (v := (0 : Int32)) C.1 C.2.1 dX8_writeLeft_15 (by decide) ?_
  refine lv_istore (lv' := [(9, .int (0 : Int32)), (8, .int (0 : Int32)), (7, .int (0 : Int32)), (6, .int (0 : Int32)), (5, .int o_1.1), (0, .ref x0), (1, .ref x1), (2, .int x2), (3, .int x3), (4, .ref x4)]) C.1 C.2.1 dX8_writeLeft_16 hl (by decide) rfl (fun ls hl => ?_)
  exact bX8_writeLeft_18 C F k_x0 k_x1 k_x4 hkm hW hZ _ (lv_sub hl [5, 6, 7, 8, 9, 4, 3, 2, 1, 0] rfl) hE
