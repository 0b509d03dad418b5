theorem m_35 : Cond.instantiable RX9 2 ∈ W0 := w0_in (List.mem_append_right _ (List.mem_of_getElem? (i := 35) (by decide +kernel))) rfl
theorem m_37 : Cond.instanceMethod yX9_init ∈ W0 := w0_in (List.mem_append_right _ (List.mem_of_getElem? (i := 37) (by decide +kernel))) rfl
theorem m_38 : Cond.code yX9_init cX9_init 2 none ∈ W0 := w0_in (List.mem_append_right _ (List.mem_of_getElem? (i := 38) (by decide +kernel))) rfl
theorem m_396 : Cond.methodLink RX8 3 objectInit ∈ W0 := w0_in (List.mem_append_right _ (List.mem_of_getElem? (i := 396) (by decide +kernel))) rfl
theorem m_397 : Cond.classLink RX8 9 RX3 ∈ W0 := w0_in (List.mem_append_right _ (List.mem_of_getElem? (i := 397) (by decide +kernel))) rfl
theorem m_398 : Cond.methodLink RX8 11 yX3_init ∈ W0 := w0_in (List.mem_append_right _ (List.mem_of_getElem? (i := 398) (by decide +kernel))) rfl
theorem m_399 : Cond.classLink RX8 18 RX9 ∈ W0 := w0_in (List.mem_append_right _ (List.mem_of_getElem? (i := 399) (by decide +kernel))) rfl
theorem m_400 : Cond.methodLink RX8 20 yX9_init ∈ W0 := w0_in (List.mem_append_right _ (List.mem_of_getElem? (i := 400) (by decide +kernel))) rfl
theorem m_401 : Cond.fieldLink RX8 27 (TX8 0).1 (TX8 0).2.1 (TX8 0).2.2.1 ∈ W0 := w0_in (List.mem_append_right _ (List.mem_of_getElem? (i := 401) (by decide +kernel))) rfl
theorem m_402 : Cond.fieldLink RX8 31 (TX8 1).1 (TX8 1).2.1 (TX8 1).2.2.1 ∈ W0 := w0_in (List.mem_append_right _ (List.mem_of_getElem? (i := 402) (by decide +kernel))) rfl
theorem m_403 : Cond.fieldLink RX8 12 (TX8 2).1 (TX8 2).2.1 (TX8 2).2.2.1 ∈ W0 := w0_in (List.mem_append_right _ (List.mem_of_getElem? (i := 403) (by decide +kernel))) rfl
theorem m_404 : Cond.fieldLink RX8 23 (TX8 3).1 (TX8 3).2.1 (TX8 3).2.2.1 ∈ W0 := w0_in (List.mem_append_right _ (List.mem_of_getElem? (i := 404) (by decide +kernel))) rfl
theorem i_X8 : ∀ w ∈ u_ws RX8 TX8 4, w ∈ W0 := by
  intro w hw
  exact w0_in (List.mem_append_right _ ((by decide +kernel : ∀ w ∈ u_ws RX8 TX8 4, w ∈ tables_1) w hw)) ((by decide +kernel : ∀ w ∈ u_ws RX8 TX8 4, goodWord w = true) w hw)
theorem dv_X9 : ∀ j, j < 2 → defaultValue (tyX9 j) = dV ((tl 9).getD j 2) := by decide +kernel
section
variable {p : Program} {l : Launch} {e : Env} {R : Room} {s : State} {m : MethodId} {args : Array Value} {below : List Frame} {meth : Method} {c : Code} {H : Heap} {locs : List Loc} {cells slots : Nat} {Q : State → Prop}
variable {cc : ByteArray} {pc : Nat} {ls : Array Slot} {rest : List Value} {X : Ec} {h h1 : Hp} {nL : Nat} {rt : Option FieldType} {mn : String}
theorem pf_X8_23 {a r : Nat} (C : Cx X p s m args meth c RX8 cc nL rt mn) (hW : Wx X h H) (hZ : va_S (aA (eB X)) s.heap H locs) (hmn : mn = "<init>") (ha : hK h a = 8) (hr : hK h r = 9) (eh : h1 = wR h a 3 (some r)) (hdg : decode cc pc = .ok (.putfield 23, 3)) (kk : ∀ (H1 : Heap) (locs1 : List Loc), Wx X h1 H1 → Km h h1 → va_S (aA (eB X)) s.heap H1 locs1 → W p l e R s m args below meth c H1 locs1 cells slots Q (F0 m (pc + 3) ls rest)) : W p l e R s m args below meth c H locs cells slots Q (F0 m pc ls (.ref r :: .ref a :: rest)) :=
  y_putrF (ty := .object "GameRules$Text") C hW hZ ha i_X8 tyX8 tyX8_ok nmX8 (by decide) rfl rfl (by decide) m_404 rfl hmn rfl (by decide +kernel) rfl rfl rfl hr rfl (by decide) eh hdg kk
theorem pf_X8_27 {a r : Nat} (C : Cx X p s m args meth c RX8 cc nL rt mn) (hW : Wx X h H) (hZ : va_S (aA (eB X)) s.heap H locs) (hmn : mn = "<init>") (ha : hK h a = 8) (hr : hK h r = 1) (eh : h1 = wR h a 0 (some r)) (hdg : decode cc pc = .ok (.putfield 27, 3)) (kk : ∀ (H1 : Heap) (locs1 : List Loc), Wx X h1 H1 → Km h h1 → va_S (aA (eB X)) s.heap H1 locs1 → W p l e R s m args below meth c H1 locs1 cells slots Q (F0 m (pc + 3) ls rest)) : W p l e R s m args below meth c H locs cells slots Q (F0 m pc ls (.ref r :: .ref a :: rest)) :=
  y_putrF (ty := .object "GameRules$Law") C hW hZ ha i_X8 tyX8 tyX8_ok nmX8 (by decide) rfl rfl (by decide) m_401 rfl hmn rfl (by decide +kernel) rfl rfl rfl hr rfl (by decide) eh hdg kk
theorem pf_X8_31 {a r : Nat} (C : Cx X p s m args meth c RX8 cc nL rt mn) (hW : Wx X h H) (hZ : va_S (aA (eB X)) s.heap H locs) (hmn : mn = "<init>") (ha : hK h a = 8) (hr : hK h r = 5) (eh : h1 = wR h a 1 (some r)) (hdg : decode cc pc = .ok (.putfield 31, 3)) (kk : ∀ (H1 : Heap) (locs1 : List Loc), Wx X h1 H1 → Km h h1 → va_S (aA (eB X)) s.heap H1 locs1 → W p l e R s m args below meth c H1 locs1 cells slots Q (F0 m (pc + 3) ls rest)) : W p l e R s m args below meth c H locs cells slots Q (F0 m pc ls (.ref r :: .ref a :: rest)) :=
  y_putrF (ty := .object "GameRules$Referee") C hW hZ ha i_X8 tyX8 tyX8_ok nmX8 (by decide) rfl rfl (by decide) m_402 rfl hmn rfl (by decide +kernel) rfl rfl rfl hr rfl (by decide) eh hdg kk
theorem pf_X8_12 {a r : Nat} (C : Cx X p s m args meth c RX8 cc nL rt mn) (hW : Wx X h H) (hZ : va_S (aA (eB X)) s.heap H locs) (hmn : mn = "<init>") (ha : hK h a = 8) (hr : hK h r = 3) (eh : h1 = wR h a 2 (some r)) (hdg : decode cc pc = .ok (.putfield 12, 3)) (kk : ∀ (H1 : Heap) (locs1 : List Loc), Wx X h1 H1 → Km h h1 → va_S (aA (eB X)) s.heap H1 locs1 → W p l e R s m args below meth c H1 locs1 cells slots Q (F0 m (pc + 3) ls rest)) : W p l e R s m args below meth c H locs cells slots Q (F0 m pc ls (.ref r :: .ref a :: rest)) :=
  y_putrF (ty := .object "GameRules$Position") C hW hZ ha i_X8 tyX8 tyX8_ok nmX8 (by decide) rfl rfl (by decide) m_403 rfl hmn rfl (by decide +kernel) rfl rfl rfl hr rfl (by decide) eh hdg kk
end
theorem ci_X8_20 : cwi RX8 20 yX9_init cX9_init 2 1 := ⟨m_38, m_400, m_2, m_37, rfl, by decide, by decide, by decide +kernel⟩
theorem ci_X8_11 : cwi RX8 11 yX3_init cX3_init 1 0 := ⟨m_268, m_398, m_8, m_267, rfl, by decide, by decide, by decide +kernel⟩
theorem dX8_init_0 : decode cX8_init 0 = .ok (.aload_n 0, 1) := by decide +kernel
theorem dX8_init_1 : decode cX8_init 1 = .ok (.invokespecial 3, 3) := by decide +kernel
theorem dX8_init_4 : decode cX8_init 4 = .ok (.aload_n 0, 1) := by decide +kernel
theorem dX8_init_5 : decode cX8_init 5 = .ok (.new 9, 3) := by decide +kernel
theorem dX8_init_8 : decode cX8_init 8 = .ok (.dup, 1) := by decide +kernel
theorem dX8_init_9 : decode cX8_init 9 = .ok (.invokespecial 11, 3) := by decide +kernel
theorem dX8_init_12 : decode cX8_init 12 = .ok (.putfield 12, 3) := by decide +kernel
theorem dX8_init_15 : decode cX8_init 15 = .ok (.aload_n 0, 1) := by decide +kernel
theorem dX8_init_16 : decode cX8_init 16 = .ok (.new 18, 3) := by decide +kernel
theorem dX8_init_19 : decode cX8_init 19 = .ok (.dup, 1) := by decide +kernel
theorem dX8_init_20 : decode cX8_init 20 = .ok (.bipush 16, 2) := by decide +kernel
theorem dX8_init_22 : decode cX8_init 22 = .ok (.invokespecial 20, 3) := by decide +kernel
theorem dX8_init_25 : decode cX8_init 25 = .ok (.putfield 23, 3) := by decide +kernel
theorem dX8_init_28 : decode cX8_init 28 = .ok (.aload_n 0, 1) := by decide +kernel
theorem dX8_init_29 : decode cX8_init 29 = .ok (.aload_n 1, 1) := by decide +kernel
theorem dX8_init_30 : decode cX8_init 30 = .ok (.putfield 27, 3) := by decide +kernel
theorem dX8_init_33 : decode cX8_init 33 = .ok (.aload_n 0, 1) := by decide +kernel
theorem dX8_init_34 : decode cX8_init 34 = .ok (.aload_n 2, 1) := by decide +kernel
theorem dX8_init_35 : decode cX8_init 35 = .ok (.putfield 31, 3) := by decide +kernel
theorem dX8_init_38 : decode cX8_init 38 = .ok (.return_, 1) := by decide +kernel
def sX8_init_25 (F : Nat) (h : Hp) (x0 : Nat) (x1 : Nat) (x2 : Nat) (t0 : Nat) (t1 : Nat) : Option (Hp) := nm (wR h t1 3 (some t0)) fun h_1 => nm (wR h_1 x0 0 (some x1)) fun h_2 => nm (wR h_2 x0 1 (some x2)) fun h_3 => some h_3
def sX8_init_19 (F : Nat) (h : Hp) (x0 : Nat) (x1 : Nat) (x2 : Nat) (t0 : Nat) (t1 : Nat) : Option (Hp) := cl (sX9_init h t0 (16 : Int32)) fun o_1 => sX8_init_25 F o_1 x0 x1 x2 t0 t1
def sX8_init_12 (F : Nat) (h : Hp) (x0 : Nat) (x1 : Nat) (x2 : Nat) (t0 : Nat) (t1 : Nat) : Option (Hp) := nm (wR h t1 2 (some t0)) fun h_1 => nm (hS h_1) fun a_2 => nm (nC h_1 9 0 2) fun h_3 => sX8_init_19 F h_3 x0 x1 x2 a_2 x0
def sX8_init_8 (F : Nat) (h : Hp) (x0 : Nat) (x1 : Nat) (x2 : Nat) (t0 : Nat) (t1 : Nat) : Option (Hp) := cl (sX3_init F h t0) fun o_1 => sX8_init_12 F o_1 x0 x1 x2 t0 t1
def sX8_init (F : Nat) (h : Hp) (x0 : Nat) (x1 : Nat) (x2 : Nat) : Option (Hp) := nm (hS h) fun a_1 => nm (nC h 3 0 11) fun h_2 => sX8_init_8 F h_2 x0 x1 x2 a_1 x0
set_option maxRecDepth 20000 in
theorem moX8_init_25 {o : Hp} {F : Nat} {h : Hp} {x0 : Nat} {x1 : Nat} {x2 : Nat} {t0 : Nat} {t1 : Nat} (hE : sX8_init_25 F h x0 x1 x2 t0 t1 = some o) : Le h o := by
  obtain ⟨h_1, eh_1, hE⟩ := nm_e2 hE
  refine (le_R eh_1).tr ?_
  obtain ⟨h_2, eh_2, hE⟩ := nm_e2 hE
  refine (le_R eh_2).tr ?_
  obtain ⟨h_3, eh_3, hE⟩ := nm_e2 hE
  refine (le_R eh_3).tr ?_
  cases hE
  exact Le.rf _
set_option maxRecDepth 20000 in
theorem moX8_init_19 {o : Hp} {F : Nat} {h : Hp} {x0 : Nat} {x1 : Nat} {x2 : Nat} {t0 : Nat} {t1 : Nat} (hE : sX8_init_19 F h x0 x1 x2 t0 t1 = some o) : Le h o := by
  obtain ⟨o_1, eo_1, hE⟩ := cl_e hE
  refine (moX9_init eo_1).tr ?_
  exact moX8_init_25 hE
set_option maxRecDepth 20000 in
theorem moX8_init_12 {o : Hp} {F : Nat} {h : Hp} {x0 : Nat} {x1 : Nat} {x2 : Nat} {t0 : Nat} {t1 : Nat} (hE : sX8_init_12 F h x0 x1 x2 t0 t1 = some o) : Le h o := by
  obtain ⟨h_1, eh_1, hE⟩ := nm_e2 hE
  refine (le_R eh_1).tr ?_
  obtain ⟨a_2, ea_2, hE⟩ := nm_e2 hE
  obtain ⟨h_3, eh_3, hE⟩ := nm_e2 hE
  refine (le_C eh_3).tr ?_
  exact moX8_init_19 hE
set_option maxRecDepth 20000 in
theorem moX8_init_8 {o : Hp} {F : Nat} {h : Hp} {x0 : Nat} {x1 : Nat} {x2 : Nat} {t0 : Nat} {t1 : Nat} (hE : sX8_init_8 F h x0 x1 x2 t0 t1 = some o) : Le h o := by
  obtain ⟨o_1, eo_1, hE⟩ := cl_e hE
  refine (moX3_init eo_1).tr ?_
  exact moX8_init_12 hE
set_option maxRecDepth 20000 in
theorem moX8_init {o : Hp} {F : Nat} {h : Hp} {x0 : Nat} {x1 : Nat} {x2 : Nat} (hE : sX8_init F h x0 x1 x2 = some o) : Le h o := by
  obtain ⟨a_1, ea_1, hE⟩ := nm_e2 hE
  obtain ⟨h_2, eh_2, hE⟩ := nm_e2 hE
  refine (le_C eh_2).tr ?_
  exact moX8_init_8 hE
set_option maxRecDepth 20000 in
theorem bX8_init_25 {p : Program} {l : Launch} {e : Env} {s : State} {m : MethodId} {args : Array Value} {below : List Frame} {meth : Method} {c : Code} {X : Ec} {h0 : Hp} {o : Hp} {F : Nat} (C : Cx X p s m args meth c RX8 cX8_init 3 none "<init>") {h : Hp} {x0 : Nat} {x1 : Nat} {x2 : Nat} {t0 : Nat} {t1 : Nat} {H : Heap} {locs : List Loc} (k_x0 : hK h x0 = 8) (k_x1 : hK h x1 = 1) (k_x2 : hK h x2 = 5) (k_t0 : hK h t0 = 9) (k_t1 : hK h t1 = 8) (hkl : Kl h0 h) (hW : Wx X h H) (hZ : va_S (aA (eB X)) s.heap H locs) (ls : Array Slot) (hl : lv_has ls 3 [(0, .ref x0), (1, .ref x1), (2, .ref x2)]) (hE : sX8_init_25 F h x0 x1 x2 t0 t1 = some o) : W p l e (rmA 2 45 h0 o) s m args below meth c H locs (hS h - hS h0) (hL h - hL h0) (MQ below (QVA X h0 o) args s (hS o - hS h0) (hL o - hL h0) (aA (eB X))) (F0 m 25 ls [.ref t0, .ref t1]) := by
  obtain ⟨h_1, eh_1, hE⟩ := nm_e2 hE
  refine pf_X8_23 C hW hZ rfl k_t1 k_t0 eh_1 dX8_init_25 (fun _ _ hW km hZ => ?_)
  replace hkl := hkl.tr km.l
  refine x_wc km ?_
  replace k_x0 := km.at k_x0 (by decide)
  replace k_x1 := km.at k_x1 (by decide)
  replace k_x2 := km.at k_x2 (by decide)
  refine lv_aload_n C.1 C.2.1 dX8_init_28 rfl (lv_at hl 0 rfl) ?_
  refine lv_aload_n C.1 C.2.1 dX8_init_29 rfl (lv_at hl 1 rfl) ?_
  obtain ⟨h_2, eh_2, hE⟩ := nm_e2 hE
  refine pf_X8_27 C hW hZ rfl k_x0 k_x1 eh_2 dX8_init_30 (fun _ _ hW km hZ => ?_)
  replace hkl := hkl.tr km.l
  refine x_wc km ?_
  replace k_x0 := km.at k_x0 (by decide)
  replace k_x1 := km.at k_x1 (by decide)
  replace k_x2 := km.at k_x2 (by decide)
  refine lv_aload_n C.1 C.2.1 dX8_init_33 rfl (lv_at hl 0 rfl) ?_
  refine lv_aload_n C.1 C.2.1 dX8_init_34 rfl (lv_at hl 2 rfl) ?_
  obtain ⟨h_3, eh_3, hE⟩ := nm_e2 hE
  refine pf_X8_31 C hW hZ rfl k_x0 k_x2 eh_3 dX8_init_35 (fun _ _ hW km hZ => ?_)
  replace hkl := hkl.tr km.l
  refine x_wc km ?_
  replace k_x0 := km.at k_x0 (by decide)
  replace k_x1 := km.at k_x1 (by decide)
  replace k_x2 := km.at k_x2 (by decide)
  exact x_vretA C rfl hW hZ hkl hE dX8_init_38
set_option maxRecDepth 20000 in
theorem bX8_init_19 {p : Program} {l : Launch} {e : Env} {s : State} {m : MethodId} {args : Array Value} {below : List Frame} {meth : Method} {c : Code} {X : Ec} {h0 : Hp} {o : Hp} {F : Nat} (C : Cx X p s m args meth c RX8 cX8_init 3 none "<init>") {h : Hp} {x0 : Nat} {x1 : Nat} {x2 : Nat} {t0 : Nat} {t1 : Nat} {H : Heap} {locs : List Loc} (k_x0 : hK h x0 = 8) (k_x1 : hK h x1 = 1) (k_x2 : hK h x2 = 5) (k_t0 : hK h t0 = 9) (k_t1 : hK h t1 = 8) (hkl : Kl h0 h) (hW : Wx X h H) (hZ : va_S (aA (eB X)) s.heap H locs) (ls : Array Slot) (hl : lv_has ls 3 [(0, .ref x0), (1, .ref x1), (2, .ref x2)]) (hE : sX8_init_19 F h x0 x1 x2 t0 t1 = some o) : W p l e (rmA 2 45 h0 o) s m args below meth c H locs (hS h - hS h0) (hL h - hL h0) (MQ below (QVA X h0 o) args s (hS o - hS h0) (hL o - hL h0) (aA (eB X))) (F0 m 19 ls [.ref t0, .ref t1]) := by
  refine lv_dup C.1 C.2.1 dX8_init_19 rfl ?_
  refine lv_bipush (v := (16 : Int32)) C.1 C.2.1 dX8_init_20 (by decide) ?_
  obtain ⟨o_1, eo_1, hE⟩ := cl_e hE
  have m1 := moX9_init eo_1
  have m2 := moX8_init_25 hE
  refine x_kVA (o := o_1) hkl (z_runI (As := [.int (16 : Int32)]) (rest := [.ref t0, .ref t1]) C (ct_X9_init l X k_t0 eo_1) ci_X8_20 hW hZ rfl hl.1 (Nat.le_of_ble_eq_true rfl) rfl dX8_init_22 ⟨Nat.le_of_ble_eq_true rfl, Nat.le_of_ble_eq_true rfl⟩ (rm_ok hkl m1 m2)) hZ (fun _ _ hW km hZ => ?_)
  replace hkl := hkl.tr km
  replace k_x0 := km.at k_x0 (by decide)
  replace k_x1 := km.at k_x1 (by decide)
  replace k_x2 := km.at k_x2 (by decide)
  replace k_t0 := km.at k_t0 (by decide)
  replace k_t1 := km.at k_t1 (by decide)
  exact bX8_init_25 C k_x0 k_x1 k_x2 k_t0 k_t1 hkl hW hZ _ (lv_sub hl [0, 1, 2] rfl) hE
set_option maxRecDepth 20000 in
theorem bX8_init_12 {p : Program} {l : Launch} {e : Env} {s : State} {m : MethodId} {args : Array Value} {below : List Frame} {meth : Method} {c : Code} {X : Ec} {h0 : Hp} {o : Hp} {F : Nat} (C : Cx X p s m args meth c RX8 cX8_init 3 none "<init>") {h : Hp} {x0 : Nat} {x1 : Nat} {x2 : Nat} {t0 : Nat} {t1 : Nat} {H : Heap} {locs : List Loc} (k_x0 : hK h x0 = 8) (k_x1 : hK h x1 = 1) (k_x2 : hK h x2 = 5) (k_t0 : hK h t0 = 3) (k_t1 : hK h t1 = 8) (hkl : Kl h0 h) (hW : Wx X h H) (hZ : va_S (aA (eB X)) s.heap H locs) (ls : Array Slot) (hl : lv_has ls 3 [(0, .ref x0), (1, .ref x1), (2, .ref x2)]) (hE : sX8_init_12 F h x0 x1 x2 t0 t1 = some o) : W p l e (rmA 2 45 h0 o) s m args below meth c H locs (hS h - hS h0) (hL h - hL h0) (MQ below (QVA X h0 o) args s (hS o - hS h0) (hL o - hL h0) (aA (eB X))) (F0 m 12 ls [.ref t0, .ref t1]) := by
  obtain ⟨h_1, eh_1, hE⟩ := nm_e2 hE
  refine pf_X8_12 C hW hZ rfl k_t1 k_t0 eh_1 dX8_init_12 (fun _ _ hW km hZ => ?_)
  replace hkl := hkl.tr km.l
  refine x_wc km ?_
  replace k_x0 := km.at k_x0 (by decide)
  replace k_x1 := km.at k_x1 (by decide)
  replace k_x2 := km.at k_x2 (by decide)
  refine lv_aload_n C.1 C.2.1 dX8_init_15 rfl (lv_at hl 0 rfl) ?_
  obtain ⟨a_2, ea_2, hE⟩ := nm_e2 hE
  obtain ⟨h_3, eh_3, hE⟩ := nm_e2 hE
  refine y_new C hW hZ hkl (moX8_init_19 hE) ⟨rfl, rfl⟩ i_X9 tyX9 tyX9_ok (by decide) rfl rfl dv_X9 m_399 m_35 m_2 eh_3 dX8_init_16 (fun _ hW km k_a_2 hZ => ?_)
  replace hkl := hkl.tr km
  refine x_nmA ea_2 ?_
  rw [← ea_2] at k_a_2
  replace k_x0 := km.at k_x0 (by decide)
  replace k_x1 := km.at k_x1 (by decide)
  replace k_x2 := km.at k_x2 (by decide)
  exact bX8_init_19 C k_x0 k_x1 k_x2 k_a_2 k_x0 hkl hW hZ _ (lv_sub hl [0, 1, 2] rfl) hE
set_option maxRecDepth 20000 in
theorem bX8_init_8 {p : Program} {l : Launch} {e : Env} {s : State} {m : MethodId} {args : Array Value} {below : List Frame} {meth : Method} {c : Code} {X : Ec} {h0 : Hp} {o : Hp} {F : Nat} (C : Cx X p s m args meth c RX8 cX8_init 3 none "<init>") {h : Hp} {x0 : Nat} {x1 : Nat} {x2 : Nat} {t0 : Nat} {t1 : Nat} {H : Heap} {locs : List Loc} (k_x0 : hK h x0 = 8) (k_x1 : hK h x1 = 1) (k_x2 : hK h x2 = 5) (k_t0 : hK h t0 = 3) (k_t1 : hK h t1 = 8) (hkl : Kl h0 h) (hW : Wx X h H) (hZ : va_S (aA (eB X)) s.heap H locs) (ls : Array Slot) (hl : lv_has ls 3 [(0, .ref x0), (1, .ref x1), (2, .ref x2)]) (hE : sX8_init_8 F h x0 x1 x2 t0 t1 = some o) : W p l e (rmA 2 45 h0 o) s m args below meth c H locs (hS h - hS h0) (hL h - hL h0) (MQ below (QVA X h0 o) args s (hS o - hS h0) (hL o - hL h0) (aA (eB X))) (F0 m 8 ls [.ref t0, .ref t1]) := by
  refine lv_dup C.1 C.2.1 dX8_init_8 rfl ?_
  obtain ⟨o_1, eo_1, hE⟩ := cl_e hE
  have m1 := moX3_init eo_1
  have m2 := moX8_init_12 hE
  refine x_kVA (o := o_1) hkl (z_runI (As := []) (rest := [.ref t0, .ref t1]) C (ct_X3_init l X F k_t0 eo_1) ci_X8_11 hW hZ rfl hl.1 (Nat.le_of_ble_eq_true rfl) rfl dX8_init_9 ⟨Nat.le_of_ble_eq_true rfl, Nat.le_of_ble_eq_true rfl⟩ (rm_ok hkl m1 m2)) hZ (fun _ _ hW km hZ => ?_)
  replace hkl := hkl.tr km
  replace k_x0 := km.at k_x0 (by decide)
  replace k_x1 := km.at k_x1 (by decide)
  replace k_x2 := km.at k_x2 (by decide)
  replace k_t0 := km.at k_t0 (by decide)
  replace k_t1 := km.at k_t1 (by decide)
  exact bX8_init_12 C k_x0 k_x1 k_x2 k_t0 k_t1 hkl hW hZ _ (lv_sub hl [0, 1, 2] rfl) hE
set_option maxRecDepth 20000 in
theorem ct_X8_init (l : Launch) (X : Ec) (F : Nat) {h : Hp} {x0 : Nat} {x1 : Nat} {x2 : Nat} {o : Hp} (k_x0 : hK h x0 = 8) (k_x1 : hK h x1 = 1) (k_x2 : hK h x2 = 5) (hE : sX8_init F h x0 x1 x2 = some o) : MetVA l yX8_init cX8_init 3 none 2 45 X [.ref x0, .ref x1, .ref x2] h o := by
  refine x_metA (oh := o) (by decide) (Nat.le_of_ble_eq_true rfl) ?_
  intro p e s m below meth c ls C hl hW hZ
  have hl : lv_has ls 3 [(0, .ref x0), (1, .ref x1), (2, .ref x2)] := hl
  have hkl : Kl h h := Kl.rf h
  refine lv_aload_n C.1 C.2.1 dX8_init_0 rfl (lv_at hl 0 rfl) ?_
  refine W.objInit C.1 C.2.1 C.2.2.2.1 (C.2.2.2.2.1 _ m_396) (C.2.2.2.2.1 _ m_32) (C.2.2.2.2.1 _ m_33) rfl (by rw [C.2.2.1]; exact hl.1) rfl dX8_init_1 (Nat.le_of_ble_eq_true rfl) (Nat.le_of_ble_eq_true rfl) ?_
  refine W.eq (g2 := F0 m 4 ls []) rfl ?_
  refine lv_aload_n C.1 C.2.1 dX8_init_4 rfl (lv_at hl 0 rfl) ?_
  obtain ⟨a_1, ea_1, hE⟩ := nm_e2 hE
  obtain ⟨h_2, eh_2, hE⟩ := nm_e2 hE
  refine y_new C hW hZ hkl (moX8_init_8 hE) ⟨rfl, rfl⟩ i_X3 tyX3 tyX3_ok (by decide) rfl rfl dv_X3 m_397 m_265 m_8 eh_2 dX8_init_5 (fun _ hW km k_a_1 hZ => ?_)
  replace hkl := hkl.tr km
  refine x_nmA ea_1 ?_
  rw [← ea_1] at k_a_1
  replace k_x0 := km.at k_x0 (by decide)
  replace k_x1 := km.at k_x1 (by decide)
  replace k_x2 := km.at k_x2 (by decide)
  exact bX8_init_8 C k_x0 k_x1 k_x2 k_a_1 k_x0 hkl hW hZ _ (lv_sub hl [0, 1, 2] rfl) hE
theorem m_419 : Cond.methodLink RX6 3 objectInit ∈ W0 := w0_in (List.mem_append_right _ (List.mem_of_getElem? (i := 419) (by decide +kernel))) rfl
theorem m_420 : Cond.classLink RX6 9 RX3 ∈ W0 := w0_in (List.mem_append_right _ (List.mem_of_getElem? (i := 420) (by decide +kernel))) rfl
theorem m_421 : Cond.methodLink RX6 11 yX3_init ∈ W0 := w0_in (List.mem_append_right _ (List.mem_of_getElem? (i := 421) (by decide +kernel))) rfl
theorem m_422 : Cond.fieldLink RX6 25 (TX6 0).1 (TX6 0).2.1 (TX6 0).2.2.1 ∈ W0 := w0_in (List.mem_append_right _ (List.mem_of_getElem? (i := 422) (by decide +kernel))) rfl
theorem m_423 : Cond.fieldLink RX6 29 (TX6 1).1 (TX6 1).2.1 (TX6 1).2.2.1 ∈ W0 := w0_in (List.mem_append_right _ (List.mem_of_getElem? (i := 423) (by decide +kernel))) rfl
theorem m_424 : Cond.fieldLink RX6 33 (TX6 2).1 (TX6 2).2.1 (TX6 2).2.2.1 ∈ W0 := w0_in (List.mem_append_right _ (List.mem_of_getElem? (i := 424) (by decide +kernel))) rfl
theorem m_425 : Cond.fieldLink RX6 12 (TX6 3).1 (TX6 3).2.1 (TX6 3).2.2.1 ∈ W0 := w0_in (List.mem_append_right _ (List.mem_of_getElem? (i := 425) (by decide +kernel))) rfl
theorem m_426 : Cond.fieldLink RX6 18 (TX6 4).1 (TX6 4).2.1 (TX6 4).2.2.1 ∈ W0 := w0_in (List.mem_append_right _ (List.mem_of_getElem? (i := 426) (by decide +kernel))) rfl
theorem m_427 : Cond.fieldLink RX6 21 (TX6 5).1 (TX6 5).2.1 (TX6 5).2.2.1 ∈ W0 := w0_in (List.mem_append_right _ (List.mem_of_getElem? (i := 427) (by decide +kernel))) rfl
theorem i_X6 : ∀ w ∈ u_ws RX6 TX6 8, w ∈ W0 := by
  intro w hw
  exact w0_in (List.mem_append_right _ ((by decide +kernel : ∀ w ∈ u_ws RX6 TX6 8, w ∈ tables_1) w hw)) ((by decide +kernel : ∀ w ∈ u_ws RX6 TX6 8, goodWord w = true) w hw)
section
variable {p : Program} {l : Launch} {e : Env} {R : Room} {s : State} {m : MethodId} {args : Array Value} {below : List Frame} {meth : Method} {c : Code} {H : Heap} {locs : List Loc} {cells slots : Nat} {Q : State → Prop}
variable {cc : ByteArray} {pc : Nat} {ls : Array Slot} {rest : List Value} {X : Ec} {h h1 : Hp} {nL : Nat} {rt : Option FieldType} {mn : String}
theorem pf_X6_21 {a r : Nat} (C : Cx X p s m args meth c RX6 cc nL rt mn) (hW : Wx X h H) (hZ : va_S (aA (eB X)) s.heap H locs) (hmn : mn = "<init>") (ha : hK h a = 6) (hr : hK h r = 17) (eh : h1 = wR h a 5 (some r)) (hdg : decode cc pc = .ok (.putfield 21, 3)) (kk : ∀ (H1 : Heap) (locs1 : List Loc), Wx X h1 H1 → Km h h1 → va_S (aA (eB X)) s.heap H1 locs1 → W p l e R s m args below meth c H1 locs1 cells slots Q (F0 m (pc + 3) ls rest)) : W p l e R s m args below meth c H locs cells slots Q (F0 m pc ls (.ref r :: .ref a :: rest)) :=
  y_putrF (ty := .array .int) C hW hZ ha i_X6 tyX6 tyX6_ok nmX6 (by decide) rfl rfl (by decide) m_427 rfl hmn rfl (by decide +kernel) rfl rfl rfl hr rfl (by decide) eh hdg kk
theorem pf_X6_25 {a r : Nat} (C : Cx X p s m args meth c RX6 cc nL rt mn) (hW : Wx X h H) (hZ : va_S (aA (eB X)) s.heap H locs) (hmn : mn = "<init>") (ha : hK h a = 6) (hr : hK h r = 1) (eh : h1 = wR h a 0 (some r)) (hdg : decode cc pc = .ok (.putfield 25, 3)) (kk : ∀ (H1 : Heap) (locs1 : List Loc), Wx X h1 H1 → Km h h1 → va_S (aA (eB X)) s.heap H1 locs1 → W p l e R s m args below meth c H1 locs1 cells slots Q (F0 m (pc + 3) ls rest)) : W p l e R s m args below meth c H locs cells slots Q (F0 m pc ls (.ref r :: .ref a :: rest)) :=
  y_putrF (ty := .object "GameRules$Law") C hW hZ ha i_X6 tyX6 tyX6_ok nmX6 (by decide) rfl rfl (by decide) m_422 rfl hmn rfl (by decide +kernel) rfl rfl rfl hr rfl (by decide) eh hdg kk
theorem pf_X6_29 {a r : Nat} (C : Cx X p s m args meth c RX6 cc nL rt mn) (hW : Wx X h H) (hZ : va_S (aA (eB X)) s.heap H locs) (hmn : mn = "<init>") (ha : hK h a = 6) (hr : hK h r = 10) (eh : h1 = wR h a 1 (some r)) (hdg : decode cc pc = .ok (.putfield 29, 3)) (kk : ∀ (H1 : Heap) (locs1 : List Loc), Wx X h1 H1 → Km h h1 → va_S (aA (eB X)) s.heap H1 locs1 → W p l e R s m args below meth c H1 locs1 cells slots Q (F0 m (pc + 3) ls rest)) : W p l e R s m args below meth c H locs cells slots Q (F0 m pc ls (.ref r :: .ref a :: rest)) :=
  y_putrF (ty := .object "GameRules$Ways") C hW hZ ha i_X6 tyX6 tyX6_ok nmX6 (by decide) rfl rfl (by decide) m_423 rfl hmn rfl (by decide +kernel) rfl rfl rfl hr rfl (by decide) eh hdg kk
theorem pf_X6_33 {a r : Nat} (C : Cx X p s m args meth c RX6 cc nL rt mn) (hW : Wx X h H) (hZ : va_S (aA (eB X)) s.heap H locs) (hmn : mn = "<init>") (ha : hK h a = 6) (hr : hK h r = 5) (eh : h1 = wR h a 2 (some r)) (hdg : decode cc pc = .ok (.putfield 33, 3)) (kk : ∀ (H1 : Heap) (locs1 : List Loc), Wx X h1 H1 → Km h h1 → va_S (aA (eB X)) s.heap H1 locs1 → W p l e R s m args below meth c H1 locs1 cells slots Q (F0 m (pc + 3) ls rest)) : W p l e R s m args below meth c H locs cells slots Q (F0 m pc ls (.ref r :: .ref a :: rest)) :=
  y_putrF (ty := .object "GameRules$Referee") C hW hZ ha i_X6 tyX6 tyX6_ok nmX6 (by decide) rfl rfl (by decide) m_424 rfl hmn rfl (by decide +kernel) rfl rfl rfl hr rfl (by decide) eh hdg kk
theorem pf_X6_18 {a r : Nat} (C : Cx X p s m args meth c RX6 cc nL rt mn) (hW : Wx X h H) (hZ : va_S (aA (eB X)) s.heap H locs) (hmn : mn = "<init>") (ha : hK h a = 6) (hr : hK h r = 3) (eh : h1 = wR h a 4 (some r)) (hdg : decode cc pc = .ok (.putfield 18, 3)) (kk : ∀ (H1 : Heap) (locs1 : List Loc), Wx X h1 H1 → Km h h1 → va_S (aA (eB X)) s.heap H1 locs1 → W p l e R s m args below meth c H1 locs1 cells slots Q (F0 m (pc + 3) ls rest)) : W p l e R s m args below meth c H locs cells slots Q (F0 m pc ls (.ref r :: .ref a :: rest)) :=
  y_putrF (ty := .object "GameRules$Position") C hW hZ ha i_X6 tyX6 tyX6_ok nmX6 (by decide) rfl rfl (by decide) m_426 rfl hmn rfl (by decide +kernel) rfl rfl rfl hr rfl (by decide) eh hdg kk
theorem pf_X6_12 {a r : Nat} (C : Cx X p s m args meth c RX6 cc nL rt mn) (hW : Wx X h H) (hZ : va_S (aA (eB X)) s.heap H locs) (hmn : mn = "<init>") (ha : hK h a = 6) (hr : hK h r = 3) (eh : h1 = wR h a 3 (some r)) (hdg : decode cc pc = .ok (.putfield 12, 3)) (kk : ∀ (H1 : Heap) (locs1 : List Loc), Wx X h1 H1 → Km h h1 → va_S (aA (eB X)) s.heap H1 locs1 → W p l e R s m args below meth c H1 locs1 cells slots Q (F0 m (pc + 3) ls rest)) : W p l e R s m args below meth c H locs cells slots Q (F0 m pc ls (.ref r :: .ref a :: rest)) :=
  y_putrF (ty := .object "GameRules$Position") C hW hZ ha i_X6 tyX6 tyX6_ok nmX6 (by decide) rfl rfl (by decide) m_425 rfl hmn rfl (by decide +kernel) rfl rfl rfl hr rfl (by decide) eh hdg kk
end
theorem ci_X6_11 : cwi RX6 11 yX3_init cX3_init 1 0 := ⟨m_268, m_421, m_8, m_267, rfl, by decide, by decide, by decide +kernel⟩
theorem dX6_init_0 : decode cX6_init 0 = .ok (.aload_n 0, 1) := by decide +kernel
theorem dX6_init_1 : decode cX6_init 1 = .ok (.invokespecial 3, 3) := by decide +kernel
theorem dX6_init_4 : decode cX6_init 4 = .ok (.aload_n 0, 1) := by decide +kernel
theorem dX6_init_5 : decode cX6_init 5 = .ok (.new 9, 3) := by decide +kernel
theorem dX6_init_8 : decode cX6_init 8 = .ok (.dup, 1) := by decide +kernel
theorem dX6_init_9 : decode cX6_init 9 = .ok (.invokespecial 11, 3) := by decide +kernel
theorem dX6_init_12 : decode cX6_init 12 = .ok (.putfield 12, 3) := by decide +kernel
theorem dX6_init_15 : decode cX6_init 15 = .ok (.aload_n 0, 1) := by decide +kernel
theorem dX6_init_16 : decode cX6_init 16 = .ok (.new 9, 3) := by decide +kernel
theorem dX6_init_19 : decode cX6_init 19 = .ok (.dup, 1) := by decide +kernel
theorem dX6_init_20 : decode cX6_init 20 = .ok (.invokespecial 11, 3) := by decide +kernel
theorem dX6_init_23 : decode cX6_init 23 = .ok (.putfield 18, 3) := by decide +kernel
theorem dX6_init_26 : decode cX6_init 26 = .ok (.aload_n 0, 1) := by decide +kernel
theorem dX6_init_27 : decode cX6_init 27 = .ok (.sipush 3000, 3) := by decide +kernel
theorem dX6_init_30 : decode cX6_init 30 = .ok (.newarray .int, 2) := by decide +kernel
theorem dX6_init_32 : decode cX6_init 32 = .ok (.putfield 21, 3) := by decide +kernel
theorem dX6_init_35 : decode cX6_init 35 = .ok (.aload_n 0, 1) := by decide +kernel
theorem dX6_init_36 : decode cX6_init 36 = .ok (.aload_n 1, 1) := by decide +kernel
theorem dX6_init_37 : decode cX6_init 37 = .ok (.putfield 25, 3) := by decide +kernel
theorem dX6_init_40 : decode cX6_init 40 = .ok (.aload_n 0, 1) := by decide +kernel
theorem dX6_init_41 : decode cX6_init 41 = .ok (.aload_n 2, 1) := by decide +kernel
theorem dX6_init_42 : decode cX6_init 42 = .ok (.putfield 29, 3) := by decide +kernel
theorem dX6_init_45 : decode cX6_init 45 = .ok (.aload_n 0, 1) := by decide +kernel
theorem dX6_init_46 : decode cX6_init 46 = .ok (.aload_n 3, 1) := by decide +kernel
theorem dX6_init_47 : decode cX6_init 47 = .ok (.putfield 33, 3) := by decide +kernel
theorem dX6_init_50 : decode cX6_init 50 = .ok (.return_, 1) := by decide +kernel
def sX6_init_32 (F : Nat) (h : Hp) (x0 : Nat) (x1 : Nat) (x2 : Nat) (x3 : Nat) (t0 : Nat) (t1 : Nat) : Option (Hp) := nm (wR h t1 5 (some t0)) fun h_1 => nm (wR h_1 x0 0 (some x1)) fun h_2 => nm (wR h_2 x0 1 (some x2)) fun h_3 => nm (wR h_3 x0 2 (some x3)) fun h_4 => some h_4
def sX6_init_23 (F : Nat) (h : Hp) (x0 : Nat) (x1 : Nat) (x2 : Nat) (x3 : Nat) (t0 : Nat) (t1 : Nat) : Option (Hp) := nm (wR h t1 4 (some t0)) fun h_1 => nm (hS h_1) fun a_2 => nm (nC h_1 17 (3000 : Int32).toNatClampNeg (3000 : Int32).toNatClampNeg) fun h_3 => sX6_init_32 F h_3 x0 x1 x2 x3 a_2 x0
def sX6_init_19 (F : Nat) (h : Hp) (x0 : Nat) (x1 : Nat) (x2 : Nat) (x3 : Nat) (t0 : Nat) (t1 : Nat) : Option (Hp) := cl (sX3_init F h t0) fun o_1 => sX6_init_23 F o_1 x0 x1 x2 x3 t0 t1
def sX6_init_12 (F : Nat) (h : Hp) (x0 : Nat) (x1 : Nat) (x2 : Nat) (x3 : Nat) (t0 : Nat) (t1 : Nat) : Option (Hp) := nm (wR h t1 3 (some t0)) fun h_1 => nm (hS h_1) fun a_2 => nm (nC h_1 3 0 11) fun h_3 => sX6_init_19 F h_3 x0 x1 x2 x3 a_2 x0
def sX6_init_8 (F : Nat) (h : Hp) (x0 : Nat) (x1 : Nat) (x2 : Nat) (x3 : Nat) (t0 : Nat) (t1 : Nat) : Option (Hp) := cl (sX3_init F h t0) fun o_1 => sX6_init_12 F o_1 x0 x1 x2 x3 t0 t1
def sX6_init (F : Nat) (h : Hp) (x0 : Nat) (x1 : Nat) (x2 : Nat) (x3 : Nat) : Option (Hp) := nm (hS h) fun a_1 => nm (nC h 3 0 11) fun h_2 => sX6_init_8 F h_2 x0 x1 x2 x3 a_1 x0
set_option maxRecDepth 20000 in
theorem moX6_init_32 {o : Hp} {F : Nat} {h : Hp} {x0 : Nat} {x1 : Nat} {x2 : Nat} {x3 : Nat} {t0 : Nat} {t1 : Nat} (hE : sX6_init_32 F h x0 x1 x2 x3 t0 t1 = some o) : Le h o := by
  obtain ⟨h_1, eh_1, hE⟩ := nm_e2 hE
  refine (le_R eh_1).tr ?_
  obtain ⟨h_2, eh_2, hE⟩ := nm_e2 hE
  refine (le_R eh_2).tr ?_
  obtain ⟨h_3, eh_3, hE⟩ := nm_e2 hE
  refine (le_R eh_3).tr ?_
  obtain ⟨h_4, eh_4, hE⟩ := nm_e2 hE
  refine (le_R eh_4).tr ?_
  cases hE
  exact Le.rf _
set_option maxRecDepth 20000 in
theorem moX6_init_23 {o : Hp} {F : Nat} {h : Hp} {x0 : Nat} {x1 : Nat} {x2 : Nat} {x3 : Nat} {t0 : Nat} {t1 : Nat} (hE : sX6_init_23 F h x0 x1 x2 x3 t0 t1 = some o) : Le h o := by
  obtain ⟨h_1, eh_1, hE⟩ := nm_e2 hE
  refine (le_R eh_1).tr ?_
  obtain ⟨a_2, ea_2, hE⟩ := nm_e2 hE
  obtain ⟨h_3, eh_3, hE⟩ := nm_e2 hE
  refine (le_C eh_3).tr ?_
  exact moX6_init_32 hE
set_option maxRecDepth 20000 in
theorem moX6_init_19 {o : Hp} {F : Nat} {h : Hp} {x0 : Nat} {x1 : Nat} {x2 : Nat} {x3 : Nat} {t0 : Nat} {t1 : Nat} (hE : sX6_init_19 F h x0 x1 x2 x3 t0 t1 = some o) : Le h o := by
  obtain ⟨o_1, eo_1, hE⟩ := cl_e hE
  refine (moX3_init eo_1).tr ?_
  exact moX6_init_23 hE
set_option maxRecDepth 20000 in
theorem moX6_init_12 {o : Hp} {F : Nat} {h : Hp} {x0 : Nat} {x1 : Nat} {x2 : Nat} {x3 : Nat} {t0 : Nat} {t1 : Nat} (hE : sX6_init_12 F h x0 x1 x2 x3 t0 t1 = some o) : Le h o := by
  obtain ⟨h_1, eh_1, hE⟩ := nm_e2 hE
  refine (le_R eh_1).tr ?_
  obtain ⟨a_2, ea_2, hE⟩ := nm_e2 hE
  obtain ⟨h_3, eh_3, hE⟩ := nm_e2 hE
  refine (le_C eh_3).tr ?_
  exact moX6_init_19 hE
set_option maxRecDepth 20000 in
theorem moX6_init_8 {o : Hp} {F : Nat} {h : Hp} {x0 : Nat} {x1 : Nat} {x2 : Nat} {x3 : Nat} {t0 : Nat} {t1 : Nat} (hE : sX6_init_8 F h x0 x1 x2 x3 t0 t1 = some o) : Le h o := by
  obtain ⟨o_1, eo_1, hE⟩ := cl_e hE
  refine (moX3_init eo_1).tr ?_
  exact moX6_init_12 hE
set_option maxRecDepth 20000 in
theorem moX6_init {o : Hp} {F : Nat} {h : Hp} {x0 : Nat} {x1 : Nat} {x2 : Nat} {x3 : Nat} (hE : sX6_init F h x0 x1 x2 x3 = some o) : Le h o := by
  obtain ⟨a_1, ea_1, hE⟩ := nm_e2 hE
  obtain ⟨h_2, eh_2, hE⟩ := nm_e2 hE
  refine (le_C eh_2).tr ?_
  exact moX6_init_8 hE
set_option maxRecDepth 20000 in
theorem bX6_init_32 {p : Program} {l : Launch} {e : Env} {s : State} {m : MethodId} {args : Array Value} {below : List Frame} {meth : Method} {c : Code} {X : Ec} {h0 : Hp} {o : Hp} {F : Nat} (C : Cx X p s m args meth c RX6 cX6_init 4 none "<init>") {h : Hp} {x0 : Nat} {x1 : Nat} {x2 : Nat} {x3 : Nat} {t0 : Nat} {t1 : Nat} {H : Heap} {locs : List Loc} (k_x0 : hK h x0 = 6) (k_x1 : hK h x1 = 1) (k_x2 : hK h x2 = 10) (k_x3 : hK h x3 = 5) (k_t0 : hK h t0 = 17) (k_t1 : hK h t1 = 6) (hkl : Kl h0 h) (hW : Wx X h H) (hZ : va_S (aA (eB X)) s.heap H locs) (ls : Array Slot) (hl : lv_has ls 4 [(0, .ref x0), (1, .ref x1), (2, .ref x2), (3, .ref x3)]) (hE : sX6_init_32 F h x0 x1 x2 x3 t0 t1 = some o) : W p l e (rmA 2 43 h0 o) s m args below meth c H locs (hS h - hS h0) (hL h - hL h0) (MQ below (QVA X h0 o) args s (hS o - hS h0) (hL o - hL h0) (aA (eB X))) (F0 m 32 ls [.ref t0, .ref t1]) := by
  obtain ⟨h_1, eh_1, hE⟩ := nm_e2 hE
  refine pf_X6_21 C hW hZ rfl k_t1 k_t0 eh_1 dX6_init_32 (fun _ _ hW km hZ => ?_)
  replace hkl := hkl.tr km.l
  refine x_wc km ?_
  replace k_x0 := km.at k_x0 (by decide)
  replace k_x1 := km.at k_x1 (by decide)
  replace k_x2 := km.at k_x2 (by decide)
  replace k_x3 := km.at k_x3 (by decide)
  refine lv_aload_n C.1 C.2.1 dX6_init_35 rfl (lv_at hl 0 rfl) ?_
  refine lv_aload_n C.1 C.2.1 dX6_init_36 rfl (lv_at hl 1 rfl) ?_
  obtain ⟨h_2, eh_2, hE⟩ := nm_e2 hE
  refine pf_X6_25 C hW hZ rfl k_x0 k_x1 eh_2 dX6_init_37 (fun _ _ hW km hZ => ?_)
  replace hkl := hkl.tr km.l
  refine x_wc km ?_
  replace k_x0 := km.at k_x0 (by decide)
  replace k_x1 := km.at k_x1 (by decide)
  replace k_x2 := km.at k_x2 (by decide)
  replace k_x3 := km.at k_x3 (by decide)
  refine lv_aload_n C.1 C.2.1 dX6_init_40 rfl (lv_at hl 0 rfl) ?_
  refine lv_aload_n C.1 C.2.1 dX6_init_41 rfl (lv_at hl 2 rfl) ?_
  obtain ⟨h_3, eh_3, hE⟩ := nm_e2 hE
  refine pf_X6_29 C hW hZ rfl k_x0 k_x2 eh_3 dX6_init_42 (fun _ _ hW km hZ => ?_)
  replace hkl := hkl.tr km.l
  refine x_wc km ?_
  replace k_x0 := km.at k_x0 (by decide)
  replace k_x1 := km.at k_x1 (by decide)
  replace k_x2 := km.at k_x2 (by decide)
  replace k_x3 := km.at k_x3 (by decide)
  refine lv_aload_n C.1 C.2.1 dX6_init_45 rfl (lv_at hl 0 rfl) ?_
  refine lv_aload_n C.1 C.2.1 dX6_init_46 rfl (lv_at hl 3 rfl) ?_
  obtain ⟨h_4, eh_4, hE⟩ := nm_e2 hE
  refine pf_X6_33 C hW hZ rfl k_x0 k_x3 eh_4 dX6_init_47 (fun _ _ hW km hZ => ?_)
  replace hkl := hkl.tr km.l
  refine x_wc km ?_
  replace k_x0 := km.at k_x0 (by decide)
  replace k_x1 := km.at k_x1 (by decide)
  replace k_x2 := km.at k_x2 (by decide)
  replace k_x3 := km.at k_x3 (by decide)
  exact x_vretA C rfl hW hZ hkl hE dX6_init_50
set_option maxRecDepth 20000 in
theorem bX6_init_23 {p : Program} {l : Launch} {e : Env} {s : State} {m : MethodId} {args : Array Value} {below : List Frame} {meth : Method} {c : Code} {X : Ec} {h0 : Hp} {o : Hp} {F : Nat} (C : Cx X p s m args meth c RX6 cX6_init 4 none "<init>") {h : Hp} {x0 : Nat} {x1 : Nat} {x2 : Nat} {x3 : Nat} {t0 : Nat} {t1 : Nat} {H : Heap} {locs : List Loc} (k_x0 : hK h x0 = 6) (k_x1 : hK h x1 = 1) (k_x2 : hK h x2 = 10) (k_x3 : hK h x3 = 5) (k_t0 : hK h t0 = 3) (k_t1 : hK h t1 = 6) (hkl : Kl h0 h) (hW : Wx X h H) (hZ : va_S (aA (eB X)) s.heap H locs) (ls : Array Slot) (hl : lv_has ls 4 [(0, .ref x0), (1, .ref x1), (2, .ref x2), (3, .ref x3)]) (hE : sX6_init_23 F h x0 x1 x2 x3 t0 t1 = some o) : W p l e (rmA 2 43 h0 o) s m args below meth c H locs (hS h - hS h0) (hL h - hL h0) (MQ below (QVA X h0 o) args s (hS o - hS h0) (hL o - hL h0) (aA (eB X))) (F0 m 23 ls [.ref t0, .ref t1]) := by
  obtain ⟨h_1, eh_1, hE⟩ := nm_e2 hE
  refine pf_X6_18 C hW hZ rfl k_t1 k_t0 eh_1 dX6_init_23 (fun _ _ hW km hZ => ?_)
  replace hkl := hkl.tr km.l
  refine x_wc km ?_
  replace k_x0 := km.at k_x0 (by decide)
  replace k_x1 := km.at k_x1 (by decide)
  replace k_x2 := km.at k_x2 (by decide)
  replace k_x3 := km.at k_x3 (by decide)
  refine lv_aload_n C.1 C.2.1 dX6_init_26 rfl (lv_at hl 0 rfl) ?_
  refine lv_sipush (v := (3000 : Int32)) C.1 C.2.1 dX6_init_27 (by decide) ?_
  obtain ⟨a_2, ea_2, hE⟩ := nm_e2 hE
  obtain ⟨h_3, eh_3, hE⟩ := nm_e2 hE
  refine y_newa (k := 17) (ty := .int) (t0 := 1) C hW hZ hkl (moX6_init_32 hE) ⟨rfl, rfl⟩ (by decide) (by decide) rfl rfl (by intro C hC; cases hC) hdef_17 m_54 (by decide) (by decide) eh_3 dX6_init_30 (fun _ hW km k_a_2 hZ => ?_)
  replace hkl := hkl.tr km
  refine x_nmA ea_2 ?_
  rw [← ea_2] at k_a_2
  replace k_x0 := km.at k_x0 (by decide)
  replace k_x1 := km.at k_x1 (by decide)
  replace k_x2 := km.at k_x2 (by decide)
  replace k_x3 := km.at k_x3 (by decide)
  exact bX6_init_32 C k_x0 k_x1 k_x2 k_x3 k_a_2 k_x0 hkl hW hZ _ (lv_sub hl [0, 1, 2, 3] rfl) hE
set_option maxRecDepth 20000 in
theorem bX6_init_19 {p : Program} {l : Launch} {e : Env} {s : State} {m : MethodId} {args : Array Value} {below : List Frame} {meth : Method} {c : Code} {X : Ec} {h0 : Hp} {o : Hp} {F : Nat} (C : Cx X p s m args meth c RX6 cX6_init 4 none "<init>") {h : Hp} {x0 : Nat} {x1 : Nat} {x2 : Nat} {x3 : Nat} {t0 : Nat} {t1 : Nat} {H : Heap} {locs : List Loc} (k_x0 : hK h x0 = 6) (k_x1 : hK h x1 = 1) (k_x2 : hK h x2 = 10) (k_x3 : hK h x3 = 5) (k_t0 : hK h t0 = 3) (k_t1 : hK h t1 = 6) (hkl : Kl h0 h) (hW : Wx X h H) (hZ : va_S (aA (eB X)) s.heap H locs) (ls : Array Slot) (hl : lv_has ls 4 [(0, .ref x0), (1, .ref x1), (2, .ref x2), (3, .ref x3)]) (hE : sX6_init_19 F h x0 x1 x2 x3 t0 t1 = some o) : W p l e (rmA 2 43 h0 o) s m args below meth c H locs (hS h - hS h0) (hL h - hL h0) (MQ below (QVA X h0 o) args s (hS o - hS h0) (hL o - hL h0) (aA (eB X))) (F0 m 19 ls [.ref t0, .ref t1]) := by
  refine lv_dup C.1 C.2.1 dX6_init_19 rfl ?_
  obtain ⟨o_1, eo_1, hE⟩ := cl_e hE
  have m1 := moX3_init eo_1
  have m2 := moX6_init_23 hE
  refine x_kVA (o := o_1) hkl (z_runI (As := []) (rest := [.ref t0, .ref t1]) C (ct_X3_init l X F k_t0 eo_1) ci_X6_11 hW hZ rfl hl.1 (Nat.le_of_ble_eq_true rfl) rfl dX6_init_20 ⟨Nat.le_of_ble_eq_true rfl, Nat.le_of_ble_eq_true rfl⟩ (rm_ok hkl m1 m2)) hZ (fun _ _ hW km hZ => ?_)
  replace hkl := hkl.tr km
  replace k_x0 := km.at k_x0 (by decide)
  replace k_x1 := km.at k_x1 (by decide)
  replace k_x2 := km.at k_x2 (by decide)
  replace k_x3 := km.at k_x3 (by decide)
  replace k_t0 := km.at k_t0 (by decide)
  replace k_t1 := km.at k_t1 (by decide)
  exact bX6_init_23 C k_x0 k_x1 k_x2 k_x3 k_t0 k_t1 hkl hW hZ _ (lv_sub hl [0, 1, 2, 3] rfl) hE
set_option maxRecDepth 20000 in
theorem bX6_init_12 {p : Program} {l : Launch} {e : Env} {s : State} {m : MethodId} {args : Array Value} {below : List Frame} {meth : Method} {c : Code} {X : Ec} {h0 : Hp} {o : Hp} {F : Nat} (C : Cx X p s m args meth c RX6 cX6_init 4 none "<init>") {h : Hp} {x0 : Nat} {x1 : Nat} {x2 : Nat} {x3 : Nat} {t0 : Nat} {t1 : Nat} {H : Heap} {locs : List Loc} (k_x0 : hK h x0 = 6) (k_x1 : hK h x1 = 1) (k_x2 : hK h x2 = 10) (k_x3 : hK h x3 = 5) (k_t0 : hK h t0 = 3) (k_t1 : hK h t1 = 6) (hkl : Kl h0 h) (hW : Wx X h H) (hZ : va_S (aA (eB X)) s.heap H locs) (ls : Array Slot) (hl : lv_has ls 4 [(0, .ref x0), (1, .ref x1), (2, .ref x2), (3, .ref x3)]) (hE : sX6_init_12 F h x0 x1 x2 x3 t0 t1 = some o) : W p l e (rmA 2 43 h0 o) s m args below meth c H locs (hS h - hS h0) (hL h - hL h0) (MQ below (QVA X h0 o) args s (hS o - hS h0) (hL o - hL h0) (aA (eB X))) (F0 m 12 ls [.ref t0, .ref t1]) := by
  obtain ⟨h_1, eh_1, hE⟩ := nm_e2 hE
  refine pf_X6_12 C hW hZ rfl k_t1 k_t0 eh_1 dX6_init_12 (fun _ _ hW km hZ => ?_)
  replace hkl := hkl.tr km.l
  refine x_wc km ?_
  replace k_x0 := km.at k_x0 (by decide)
  replace k_x1 := km.at k_x1 (by decide)
  replace k_x2 := km.at k_x2 (by decide)
  replace k_x3 := km.at k_x3 (by decide)
  refine lv_aload_n C.1 C.2.1 dX6_init_15 rfl (lv_at hl 0 rfl) ?_
  obtain ⟨a_2, ea_2, hE⟩ := nm_e2 hE
  obtain ⟨h_3, eh_3, hE⟩ := nm_e2 hE
  refine y_new C hW hZ hkl (moX6_init_19 hE) ⟨rfl, rfl⟩ i_X3 tyX3 tyX3_ok (by decide) rfl rfl dv_X3 m_420 m_265 m_8 eh_3 dX6_init_16 (fun _ hW km k_a_2 hZ => ?_)
  replace hkl := hkl.tr km
  refine x_nmA ea_2 ?_
  rw [← ea_2] at k_a_2
  replace k_x0 := km.at k_x0 (by decide)
  replace k_x1 := km.at k_x1 (by decide)
  replace k_x2 := km.at k_x2 (by decide)
  replace k_x3 := km.at k_x3 (by decide)
  exact bX6_init_19 C k_x0 k_x1 k_x2 k_x3 k_a_2 k_x0 hkl hW hZ _ (lv_sub hl [0, 1, 2, 3] rfl) hE
set_option maxRecDepth 20000 in
theorem bX6_init_8 {p : Program} {l : Launch} {e : Env} {s : State} {m : MethodId} {args : Array Value} {below : List Frame} {meth : Method} {c : Code} {X : Ec} {h0 : Hp} {o : Hp} {F : Nat} (C : Cx X p s m args meth c RX6 cX6_init 4 none "<init>") {h : Hp} {x0 : Nat} {x1 : Nat} {x2 : Nat} {x3 : Nat} {t0 : Nat} {t1 : Nat} {H : Heap} {locs : List Loc} (k_x0 : hK h x0 = 6) (k_x1 : hK h x1 = 1) (k_x2 : hK h x2 = 10) (k_x3 : hK h x3 = 5) (k_t0 : hK h t0 = 3) (k_t1 : hK h t1 = 6) (hkl : Kl h0 h) (hW : Wx X h H) (hZ : va_S (aA (eB X)) s.heap H locs) (ls : Array Slot) (hl : lv_has ls 4 [(0, .ref x0), (1, .ref x1), (2, .ref x2), (3, .ref x3)]) (hE : sX6_init_8 F h x0 x1 x2 x3 t0 t1 = some o) : W p l e (rmA 2 43 h0 o) s m args below meth c H locs (hS h - hS h0) (hL h - hL h0) (MQ below (QVA X h0 o) args s (hS o - hS h0) (hL o - hL h0) (aA (eB X))) (F0 m 8 ls [.ref t0, .ref t1]) := by
  refine lv_dup C.1 C.2.1 dX6_init_8 rfl ?_
  obtain ⟨o_1, eo_1, hE⟩ := cl_e hE
  have m1 := moX3_init eo_1
  have m2 := moX6_init_12 hE
  refine x_kVA (o := o_1) hkl (z_runI (As := []) (rest := [.ref t0, .ref t1]) C (ct_X3_init l X F k_t0 eo_1) ci_X6_11 hW hZ rfl hl.1 (Nat.le_of_ble_eq_true rfl) rfl dX6_init_9 ⟨Nat.le_of_ble_eq_true rfl, Nat.le_of_ble_eq_true rfl⟩ (rm_ok hkl m1 m2)) hZ (fun _ _ hW km hZ => ?_)
  replace hkl := hkl.tr km
  replace k_x0 := km.at k_x0 (by decide)
  replace k_x1 := km.at k_x1 (by decide)
  replace k_x2 := km.at k_x2 (by decide)
  replace k_x3 := km.at k_x3 (by decide)
  replace k_t0 := km.at k_t0 (by decide)
  replace k_t1 := km.at k_t1 (by decide)
  exact bX6_init_12 C k_x0 k_x1 k_x2 k_x3 k_t0 k_t1 hkl hW hZ _ (lv_sub hl [0, 1, 2, 3] rfl) hE
set_option maxRecDepth 20000 in
theorem ct_X6_init (l : Launch) (X : Ec) (F : Nat) {h : Hp} {x0 : Nat} {x1 : Nat} {x2 : Nat} {x3 : Nat} {o : Hp} (k_x0 : hK h x0 = 6) (k_x1 : hK h x1 = 1) (k_x2 : hK h x2 = 10) (k_x3 : hK h x3 = 5) (hE : sX6_init F h x0 x1 x2 x3 = some o) : MetVA l yX6_init cX6_init 4 none 2 43 X [.ref x0, .ref x1, .ref x2, .ref x3] h o := by
  refine x_metA (oh := o) (by decide) (Nat.le_of_ble_eq_true rfl) ?_
  intro p e s m below meth c ls C hl hW hZ
  have hl : lv_has ls 4 [(0, .ref x0), (1, .ref x1), (2, .ref x2), (3, .ref x3)] := hl
  have hkl : Kl h h := Kl.rf h
  refine lv_aload_n C.1 C.2.1 dX6_init_0 rfl (lv_at hl 0 rfl) ?_
  refine W.objInit C.1 C.2.1 C.2.2.2.1 (C.2.2.2.2.1 _ m_419) (C.2.2.2.2.1 _ m_32) (C.2.2.2.2.1 _ m_33) rfl (by rw [C.2.2.1]; exact hl.1) rfl dX6_init_1 (Nat.le_of_ble_eq_true rfl) (Nat.le_of_ble_eq_true rfl) ?_
  refine W.eq (g2 := F0 m 4 ls []) rfl ?_
  refine lv_aload_n C.1 C.2.1 dX6_init_4 rfl (lv_at hl 0 rfl) ?_
  obtain ⟨a_1, ea_1, hE⟩ := nm_e2 hE
  obtain ⟨h_2, eh_2, hE⟩ := nm_e2 hE
  refine y_new C hW hZ hkl (moX6_init_8 hE) ⟨rfl, rfl⟩ i_X3 tyX3 tyX3_ok (by decide) rfl rfl dv_X3 m_420 m_265 m_8 eh_2 dX6_init_5 (fun _ hW km k_a_1 hZ => ?_)
  replace hkl := hkl.tr km
  refine x_nmA ea_1 ?_
  rw [← ea_1] at k_a_1
  replace k_x0 := km.at k_x0 (by decide)
  replace k_x1 := km.at k_x1 (by decide)
  replace k_x2 := km.at k_x2 (by decide)
  replace k_x3 := km.at k_x3 (by decide)
  exact bX6_init_8 C k_x0 k_x1 k_x2 k_x3 k_a_1 k_x0 hkl hW hZ _ (lv_sub hl [0, 1, 2, 3] rfl) hE
theorem m_1431 : Cond.methodLink RX8 35 yX5_comeTo ∈ W0 := w0_in (List.mem_append_right _ (List.mem_of_getElem? (i := 1431) (by decide +kernel))) rfl
theorem m_1432 : Cond.methodLink RX8 41 yX5_kindOf ∈ W0 := w0_in (List.mem_append_right _ (List.mem_of_getElem? (i := 1432) (by decide +kernel))) rfl
theorem m_1437 : Cond.methodLink RX8 55 yX5_manOf ∈ W0 := w0_in (List.mem_append_right _ (List.mem_of_getElem? (i := 1437) (by decide +kernel))) rfl
theorem cw_X8_55 : cwd RX8 55 yX5_manOf cX5_manOf 1 (some .int) true 1 := ⟨m_1218, m_1437, m_7, m_1217, by decide, by decide, by decide +kernel⟩
theorem cw_X8_35 : cwd RX8 35 yX5_comeTo cX5_comeTo 1 (some .int) true 1 := ⟨m_1215, m_1431, m_7, m_1214, by decide, by decide, by decide +kernel⟩
theorem cw_X8_41 : cwd RX8 41 yX5_kindOf cX5_kindOf 1 (some .int) true 1 := ⟨m_1248, m_1432, m_7, m_1247, by decide, by decide, by decide +kernel⟩
theorem dX8_isRival_0 : decode cX8_isRival 0 = .ok (.iload_n 0, 1) := by decide +kernel
theorem dX8_isRival_1 : decode cX8_isRival 1 = .ok (.invokestatic 55, 3) := by decide +kernel
theorem dX8_isRival_4 : decode cX8_isRival 4 = .ok (.iload_n 1, 1) := by decide +kernel
theorem dX8_isRival_5 : decode cX8_isRival 5 = .ok (.invokestatic 55, 3) := by decide +kernel
theorem dX8_isRival_8 : decode cX8_isRival 8 = .ok (.if_icmp .ne 26, 3) := by decide +kernel
theorem dX8_isRival_11 : decode cX8_isRival 11 = .ok (.iload_n 0, 1) := by decide +kernel
theorem dX8_isRival_12 : decode cX8_isRival 12 = .ok (.invokestatic 35, 3) := by decide +kernel
theorem dX8_isRival_15 : decode cX8_isRival 15 = .ok (.iload_n 1, 1) := by decide +kernel
theorem dX8_isRival_16 : decode cX8_isRival 16 = .ok (.invokestatic 35, 3) := by decide +kernel
theorem dX8_isRival_19 : decode cX8_isRival 19 = .ok (.if_icmp .ne 15, 3) := by decide +kernel
theorem dX8_isRival_22 : decode cX8_isRival 22 = .ok (.iload_n 0, 1) := by decide +kernel
theorem dX8_isRival_23 : decode cX8_isRival 23 = .ok (.invokestatic 41, 3) := by decide +kernel
theorem dX8_isRival_26 : decode cX8_isRival 26 = .ok (.iconst 1, 1) := by decide +kernel
theorem dX8_isRival_27 : decode cX8_isRival 27 = .ok (.if_icmp .gt 7, 3) := by decide +kernel
theorem dX8_isRival_30 : decode cX8_isRival 30 = .ok (.iconst 1, 1) := by decide +kernel
theorem dX8_isRival_31 : decode cX8_isRival 31 = .ok (.goto 4, 3) := by decide +kernel
theorem dX8_isRival_34 : decode cX8_isRival 34 = .ok (.iconst 0, 1) := by decide +kernel
theorem dX8_isRival_35 : decode cX8_isRival 35 = .ok (.ireturn, 1) := by decide +kernel
def sX8_isRival_35 (h : Hp) (t0 : Int32) : Option (Int32 × Hp) := gd (t0 &&& 1 = t0) <| some (t0, h)
def sX8_isRival_34 (h : Hp) : Option (Int32 × Hp) := sX8_isRival_35  h (0 : Int32)
def sX8_isRival (h : Hp) (x0 : Int32) (x1 : Int32) : Option (Int32 × Hp) := cl (sX5_manOf h x0) fun o_1 => cl (sX5_manOf o_1.2 x1) fun o_2 => br (o_1.1 = o_2.1) (cl (sX5_comeTo o_2.2 x0) fun o_4 => cl (sX5_comeTo o_4.2 x1) fun o_5 => br (o_4.1 = o_5.1) (cl (sX5_kindOf o_5.2 x0) fun o_7 => br ((1 : Int32) < o_7.1) (sX8_isRival_34  o_7.2 ) (sX8_isRival_35  o_7.2 (1 : Int32))) (sX8_isRival_34  o_5.2 )) (sX8_isRival_34  o_2.2 )
set_option maxRecDepth 20000 in
theorem bX8_isRival_35 {p : Program} {l : Launch} {e : Env} {s : State} {m : MethodId} {args : Array Value} {below : List Frame} {meth : Method} {c : Code} {X : Ec} {h0 : Hp} {o : Int32 × Hp} (C : Cx X p s m args meth c RX8 cX8_isRival 2 (some .boolean) "isRival") {h : Hp} {t0 : Int32} {H : Heap} {locs : List Loc} (hkm : Km h0 h) (hW : Wx X h H) (hZ : va_S (aA (eB X)) s.heap H locs) (ls : Array Slot) (hl : lv_has ls 2 []) (hE : sX8_isRival_35 h  t0 = some o) : W p l e (rm 1 20) s m args below meth c H locs 0 0 (MQ below (QI X h0 o.1 o.2) args s 0 0 (aA (eB X))) (F0 m 35 ls [.int t0]) := by
  obtain ⟨g_1, hE⟩ := gd_e hE
  exact x_iret C rfl (narB g_1) hW hZ hkm hE dX8_isRival_35
set_option maxRecDepth 20000 in
theorem bX8_isRival_34 {p : Program} {l : Launch} {e : Env} {s : State} {m : MethodId} {args : Array Value} {below : List Frame} {meth : Method} {c : Code} {X : Ec} {h0 : Hp} {o : Int32 × Hp} (C : Cx X p s m args meth c RX8 cX8_isRival 2 (some .boolean) "isRival") {h : Hp} {H : Heap} {locs : List Loc} (hkm : Km h0 h) (hW : Wx X h H) (hZ : va_S (aA (eB X)) s.heap H locs) (ls : Array Slot) (hl : lv_has ls 2 []) (hE : sX8_isRival_34 h  = some o) : W p l e (rm 1 20) s m args below meth c H locs 0 0 (MQ below (QI X h0 o.1 o.2) args s 0 0 (aA (eB X))) (F0 m 34 ls []) := by
  refine lv_iconst (v := (0 : Int32)) C.1 C.2.1 dX8_isRival_34 (by decide) ?_
  exact bX8_isRival_35 C hkm hW hZ _ (lv_sub hl [] rfl) hE
set_option maxRecDepth 20000 in
theorem ct_X8_isRival (l : Launch) (X : Ec) {h : Hp} {x0 : Int32} {x1 : Int32} {o : Int32 × Hp} (hE : sX8_isRival h x0 x1 = some o) : MetI l yX8_isRival cX8_isRival 2 (some .boolean) 1 20 X [.int x0, .int x1] h o := by
  refine x_met (by decide) (Nat.le_of_ble_eq_true rfl) ?_
  intro p e s m below meth c ls C hl hW hZ
  have hl : lv_has ls 2 [(0, .int x0), (1, .int x1)] := hl
  have hkm : Km h h := Km.rf h
  refine lv_iload_n C.1 C.2.1 dX8_isRival_0 rfl (lv_at hl 0 rfl) ?_
  obtain ⟨o_1, eo_1, hE⟩ := cl_e hE
  refine x_kI (o := o_1) (z_runS (As := [.int x0]) (rest := []) C (ct_X5_manOf l X eo_1) cw_X8_55 hW hZ rfl hl.1 (Nat.le_of_ble_eq_true rfl) rfl dX8_isRival_1 ⟨Nat.le_of_ble_eq_true rfl, Nat.le_of_ble_eq_true rfl⟩ ⟨Nat.le_refl _, Nat.le_refl _⟩) hZ (fun _ _ hW km hZ => ?_)
  replace hkm := hkm.tr km
  refine lv_iload_n C.1 C.2.1 dX8_isRival_4 rfl (lv_at hl 1 rfl) ?_
  obtain ⟨o_2, eo_2, hE⟩ := cl_e hE
  refine x_kI (o := o_2) (z_runS (As := [.int x1]) (rest := [.int o_1.1]) C (ct_X5_manOf l X eo_2) cw_X8_55 hW hZ rfl hl.1 (Nat.le_of_ble_eq_true rfl) rfl dX8_isRival_5 ⟨Nat.le_of_ble_eq_true rfl, Nat.le_of_ble_eq_true rfl⟩ ⟨Nat.le_refl _, Nat.le_refl _⟩) hZ (fun _ _ hW km hZ => ?_)
  replace hkm := hkm.tr km
  refine lv_icmp_ne (tgt := 34) C.1 C.2.1 dX8_isRival_8 (by decide) (fun c_3 => ?_) (fun c_3 => ?_)
  · have hE := br_n hE c_3
    exact bX8_isRival_34 C hkm hW hZ _ (lv_sub hl [] rfl) hE
  · have hE := br_p hE c_3
    refine lv_iload_n C.1 C.2.1 dX8_isRival_11 rfl (lv_at hl 0 rfl) ?_
    obtain ⟨o_4, eo_4, hE⟩ := cl_e hE
    refine x_kI (o := o_4) (z_runS (As := [.int x0]) (rest := []) C (ct_X5_comeTo l X eo_4) cw_X8_35 hW hZ rfl hl.1 (Nat.le_of_ble_eq_true rfl) rfl dX8_isRival_12 ⟨Nat.le_of_ble_eq_true rfl, Nat.le_of_ble_eq_true rfl⟩ ⟨Nat.le_refl _, Nat.le_refl _⟩) hZ (fun _ _ hW km hZ => ?_)
    replace hkm := hkm.tr km
    refine lv_iload_n C.1 C.2.1 dX8_isRival_15 rfl (lv_at hl 1 rfl) ?_
    obtain ⟨o_5, eo_5, hE⟩ := cl_e hE
    refine x_kI (o := o_5) (z_runS (As := [.int x1]) (rest := [.int o_4.1]) C (ct_X5_comeTo l X eo_5) cw_X8_35 hW hZ rfl hl.1 (Nat.le_of_ble_eq_true rfl) rfl dX8_isRival_16 ⟨Nat.le_of_ble_eq_true rfl, Nat.le_of_ble_eq_true rfl⟩ ⟨Nat.le_refl _, Nat.le_refl _⟩) hZ (fun _ _ hW km hZ => ?_)
    replace hkm := hkm.tr km
    refine lv_icmp_ne (tgt := 34) C.1 C.2.1 dX8_isRival_19 (by decide) (fun c_6 => ?_) (fun c_6 => ?_)
    · have hE := br_n hE c_6
      exact bX8_isRival_34 C hkm hW hZ _ (lv_sub hl [] rfl) hE
    · have hE := br_p hE c_6
      refine lv_iload_n C.1 C.2.1 dX8_isRival_22 rfl (lv_at hl 0 rfl) ?_
      obtain ⟨o_7, eo_7, hE⟩ := cl_e hE
      refine x_kI (o := o_7) (z_runS (As := [.int x0]) (rest := []) C (ct_X5_kindOf l X eo_7) cw_X8_41 hW hZ rfl hl.1 (Nat.le_of_ble_eq_true rfl) rfl dX8_isRival_23 ⟨Nat.le_of_ble_eq_true rfl, Nat.le_of_ble_eq_true rfl⟩ ⟨Nat.le_refl _, Nat.le_refl _⟩) hZ (fun _ _ hW km hZ => ?_)
      replace hkm := hkm.tr km
      refine lv_iconst (v := (1 : Int32)) C.1 C.2.1 dX8_isRival_26 (by decide) ?_
      refine lv_icmp_gt (tgt := 34) C.1 C.2.1 dX8_isRival_27 (by decide) (fun c_8 => ?_) (fun c_8 => ?_)
      · have hE := br_p hE c_8
        exact bX8_isRival_34 C hkm hW hZ _ (lv_sub hl [] rfl) hE
      · have hE := br_n hE c_8
        refine lv_iconst (v := (1 : Int32)) C.1 C.2.1 dX8_isRival_30 (by decide) ?_
        refine lv_goto (tgt := 35) C.1 C.2.1 dX8_isRival_31 (by decide) ?_
        exact bX8_isRival_35 C hkm hW hZ _ (lv_sub hl [] rfl) hE
theorem m_11 : Cond.initialized RX8 ∈ W0 := w0_in (List.mem_append_right _ (List.mem_of_getElem? (i := 11) (by decide +kernel))) rfl
theorem m_94 : Cond.fieldLink RX8 66 (TX1 5).1 (TX1 5).2.1 (TX1 5).2.2.1 ∈ W0 := w0_in (List.mem_append_right _ (List.mem_of_getElem? (i := 94) (by decide +kernel))) rfl
theorem m_136 : Cond.fieldLink RX8 90 (TX1 19).1 (TX1 19).2.1 (TX1 19).2.2.1 ∈ W0 := w0_in (List.mem_append_right _ (List.mem_of_getElem? (i := 136) (by decide +kernel))) rfl
theorem m_142 : Cond.fieldLink RX8 94 (TX1 20).1 (TX1 20).2.1 (TX1 20).2.2.1 ∈ W0 := w0_in (List.mem_append_right _ (List.mem_of_getElem? (i := 142) (by decide +kernel))) rfl
theorem m_1433 : Cond.methodLink RX8 44 yX5_leftBy ∈ W0 := w0_in (List.mem_append_right _ (List.mem_of_getElem? (i := 1433) (by decide +kernel))) rfl
theorem m_1439 : Cond.methodLink RX8 63 yX9_append ∈ W0 := w0_in (List.mem_append_right _ (List.mem_of_getElem? (i := 1439) (by decide +kernel))) rfl
theorem m_1444 : Cond.methodLink RX8 86 yX8_isRival ∈ W0 := w0_in (List.mem_append_right _ (List.mem_of_getElem? (i := 1444) (by decide +kernel))) rfl
theorem m_1445 : Cond.static yX8_isRival ∈ W0 := w0_in (List.mem_append_right _ (List.mem_of_getElem? (i := 1445) (by decide +kernel))) rfl
theorem m_1446 : Cond.code yX8_isRival cX8_isRival 2 (some .boolean) ∈ W0 := w0_in (List.mem_append_right _ (List.mem_of_getElem? (i := 1446) (by decide +kernel))) rfl
theorem m_1447 : Cond.methodLink RX8 74 yX5_takenBy ∈ W0 := w0_in (List.mem_append_right _ (List.mem_of_getElem? (i := 1447) (by decide +kernel))) rfl
section
variable {p : Program} {l : Launch} {e : Env} {R : Room} {s : State} {m : MethodId} {args : Array Value} {below : List Frame} {meth : Method} {c : Code} {H : Heap} {locs : List Loc} {cells slots : Nat} {Q : State → Prop}
variable {cc : ByteArray} {pc : Nat} {ls : Array Slot} {rest : List Value} {X : Ec} {h h1 : Hp} {nL : Nat} {rt : Option FieldType} {mn : String}
theorem gf_X8_27 {a r : Nat} (C : Cx X p s m args meth c RX8 cc nL rt mn) (hW : Wx X h H) (ha : hK h a = 8) (hr : hR h a 0 = some r) (hdg : decode cc pc = .ok (.getfield 27, 3)) (kk : hK h r = 1 → W p l e R s m args below meth c H locs cells slots Q (F0 m (pc + 3) ls (.ref r :: rest))) : W p l e R s m args below meth c H locs cells slots Q (F0 m pc ls (.ref a :: rest)) :=
  y_getr C hW ha i_X8 (by decide) rfl (by decide) m_401 rfl rfl hr hdg kk
theorem gf_X8_94 {a r : Nat} (C : Cx X p s m args meth c RX8 cc nL rt mn) (hW : Wx X h H) (ha : hK h a = 1) (hr : hR h a 20 = some r) (hdg : decode cc pc = .ok (.getfield 94, 3)) (kk : hK h r = 17 → W p l e R s m args below meth c H locs cells slots Q (F0 m (pc + 3) ls (.ref r :: rest))) : W p l e R s m args below meth c H locs cells slots Q (F0 m pc ls (.ref a :: rest)) :=
  y_getr C hW ha i_X1 (by decide) rfl (by decide) m_142 rfl rfl hr hdg kk
theorem gf_X8_90 {a r : Nat} (C : Cx X p s m args meth c RX8 cc nL rt mn) (hW : Wx X h H) (ha : hK h a = 1) (hr : hR h a 19 = some r) (hdg : decode cc pc = .ok (.getfield 90, 3)) (kk : hK h r = 17 → W p l e R s m args below meth c H locs cells slots Q (F0 m (pc + 3) ls (.ref r :: rest))) : W p l e R s m args below meth c H locs cells slots Q (F0 m pc ls (.ref a :: rest)) :=
  y_getr C hW ha i_X1 (by decide) rfl (by decide) m_136 rfl rfl hr hdg kk
theorem gf_X8_66 {a : Nat} (C : Cx X p s m args meth c RX8 cc nL rt mn) (hW : Wx X h H) (ha : hK h a = 1) (hdg : decode cc pc = .ok (.getfield 66, 3)) (kk : W p l e R s m args below meth c H locs cells slots Q (F0 m (pc + 3) ls (.int (hI h a 5) :: rest))) : W p l e R s m args below meth c H locs cells slots Q (F0 m pc ls (.ref a :: rest)) :=
  y_geti C hW ha i_X1 (by decide) rfl (by decide) m_94 rfl hdg kk
end
theorem cw_X8_63 : cwd RX8 63 yX9_append cX9_append 2 none false 1 := ⟨m_640, m_1439, m_2, ⟨m_638, m_639⟩, by decide, by decide, by decide +kernel⟩
theorem cw_X8_74 : cwd RX8 74 yX5_takenBy cX5_takenBy 2 (some .int) true 1 := ⟨m_1212, m_1447, m_7, m_1211, by decide, by decide, by decide +kernel⟩
theorem cw_X8_44 : cwd RX8 44 yX5_leftBy cX5_leftBy 1 (some .int) true 1 := ⟨m_1251, m_1433, m_7, m_1250, by decide, by decide, by decide +kernel⟩
theorem cw_X8_86 : cwd RX8 86 yX8_isRival cX8_isRival 2 (some .boolean) true 2 := ⟨m_1446, m_1444, m_11, m_1445, by decide, by decide, by decide +kernel⟩
theorem dX8_writeLeft_0 : decode cX8_writeLeft 0 = .ok (.iload_n 3, 1) := by decide +kernel
theorem dX8_writeLeft_1 : decode cX8_writeLeft 1 = .ok (.invokestatic 44, 3) := by decide +kernel
theorem dX8_writeLeft_4 : decode cX8_writeLeft 4 = .ok (.istore 5, 2) := by decide +kernel
theorem dX8_writeLeft_6 : decode cX8_writeLeft 6 = .ok (.iconst 0, 1) := by decide +kernel
theorem dX8_writeLeft_7 : decode cX8_writeLeft 7 = .ok (.istore 6, 2) := by decide +kernel
theorem dX8_writeLeft_9 : decode cX8_writeLeft 9 = .ok (.iconst 0, 1) := by decide +kernel
theorem dX8_writeLeft_10 : decode cX8_writeLeft 10 = .ok (.istore 7, 2) := by decide +kernel
theorem dX8_writeLeft_12 : decode cX8_writeLeft 12 = .ok (.iconst 0, 1) := by decide +kernel
theorem dX8_writeLeft_13 : decode cX8_writeLeft 13 = .ok (.istore 8, 2) := by decide +kernel
theorem dX8_writeLeft_15 : decode cX8_writeLeft 15 = .ok (.iconst 0, 1) := by decide +kernel
theorem dX8_writeLeft_16 : decode cX8_writeLeft 16 = .ok (.istore 9, 2) := by decide +kernel
theorem dX8_writeLeft_18 : decode cX8_writeLeft 18 = .ok (.iload 9, 2) := by decide +kernel
theorem dX8_writeLeft_20 : decode cX8_writeLeft 20 = .ok (.iload_n 2, 1) := by decide +kernel
theorem dX8_writeLeft_21 : decode cX8_writeLeft 21 = .ok (.if_icmp .ge 109, 3) := by decide +kernel
theorem dX8_writeLeft_24 : decode cX8_writeLeft 24 = .ok (.aload_n 1, 1) := by decide +kernel
theorem dX8_writeLeft_25 : decode cX8_writeLeft 25 = .ok (.iload 9, 2) := by decide +kernel
theorem dX8_writeLeft_27 : decode cX8_writeLeft 27 = .ok (.iaload, 1) := by decide +kernel
theorem dX8_writeLeft_28 : decode cX8_writeLeft 28 = .ok (.invokestatic 44, 3) := by decide +kernel
theorem dX8_writeLeft_31 : decode cX8_writeLeft 31 = .ok (.istore 10, 2) := by decide +kernel
theorem dX8_writeLeft_33 : decode cX8_writeLeft 33 = .ok (.iload 10, 2) := by decide +kernel
theorem dX8_writeLeft_35 : decode cX8_writeLeft 35 = .ok (.iload 5, 2) := by decide +kernel
theorem dX8_writeLeft_37 : decode cX8_writeLeft 37 = .ok (.if_icmp .eq 87, 3) := by decide +kernel
theorem dX8_writeLeft_40 : decode cX8_writeLeft 40 = .ok (.aload_n 1, 1) := by decide +kernel
theorem dX8_writeLeft_41 : decode cX8_writeLeft 41 = .ok (.iload 9, 2) := by decide +kernel
theorem dX8_writeLeft_43 : decode cX8_writeLeft 43 = .ok (.iaload, 1) := by decide +kernel
theorem dX8_writeLeft_44 : decode cX8_writeLeft 44 = .ok (.iload_n 3, 1) := by decide +kernel
theorem dX8_writeLeft_45 : decode cX8_writeLeft 45 = .ok (.invokestatic 86, 3) := by decide +kernel
theorem dX8_writeLeft_48 : decode cX8_writeLeft 48 = .ok (.ifCond .eq 76, 3) := by decide +kernel
theorem dX8_writeLeft_51 : decode cX8_writeLeft 51 = .ok (.iconst 1, 1) := by decide +kernel
theorem dX8_writeLeft_52 : decode cX8_writeLeft 52 = .ok (.istore 6, 2) := by decide +kernel
theorem dX8_writeLeft_54 : decode cX8_writeLeft 54 = .ok (.iload 7, 2) := by decide +kernel
theorem dX8_writeLeft_56 : decode cX8_writeLeft 56 = .ok (.ifCond .ne 26, 3) := by decide +kernel
theorem dX8_writeLeft_59 : decode cX8_writeLeft 59 = .ok (.aload_n 0, 1) := by decide +kernel
theorem dX8_writeLeft_60 : decode cX8_writeLeft 60 = .ok (.getfield 27, 3) := by decide +kernel
theorem dX8_writeLeft_63 : decode cX8_writeLeft 63 = .ok (.getfield 90, 3) := by decide +kernel
theorem dX8_writeLeft_66 : decode cX8_writeLeft 66 = .ok (.iload 10, 2) := by decide +kernel
theorem dX8_writeLeft_68 : decode cX8_writeLeft 68 = .ok (.iaload, 1) := by decide +kernel
theorem dX8_writeLeft_69 : decode cX8_writeLeft 69 = .ok (.aload_n 0, 1) := by decide +kernel
theorem dX8_writeLeft_70 : decode cX8_writeLeft 70 = .ok (.getfield 27, 3) := by decide +kernel
theorem dX8_writeLeft_73 : decode cX8_writeLeft 73 = .ok (.getfield 90, 3) := by decide +kernel
theorem dX8_writeLeft_76 : decode cX8_writeLeft 76 = .ok (.iload 5, 2) := by decide +kernel
theorem dX8_writeLeft_78 : decode cX8_writeLeft 78 = .ok (.iaload, 1) := by decide +kernel
theorem dX8_writeLeft_79 : decode cX8_writeLeft 79 = .ok (.if_icmp .ne 7, 3) := by decide +kernel
theorem dX8_writeLeft_82 : decode cX8_writeLeft 82 = .ok (.iconst 1, 1) := by decide +kernel
theorem dX8_writeLeft_83 : decode cX8_writeLeft 83 = .ok (.goto 4, 3) := by decide +kernel
theorem dX8_writeLeft_86 : decode cX8_writeLeft 86 = .ok (.iconst 0, 1) := by decide +kernel
theorem dX8_writeLeft_87 : decode cX8_writeLeft 87 = .ok (.istore 7, 2) := by decide +kernel
theorem dX8_writeLeft_89 : decode cX8_writeLeft 89 = .ok (.iload 8, 2) := by decide +kernel
theorem dX8_writeLeft_91 : decode cX8_writeLeft 91 = .ok (.ifCond .ne 26, 3) := by decide +kernel
theorem dX8_writeLeft_94 : decode cX8_writeLeft 94 = .ok (.aload_n 0, 1) := by decide +kernel
theorem dX8_writeLeft_95 : decode cX8_writeLeft 95 = .ok (.getfield 27, 3) := by decide +kernel
theorem dX8_writeLeft_98 : decode cX8_writeLeft 98 = .ok (.getfield 94, 3) := by decide +kernel
theorem dX8_writeLeft_101 : decode cX8_writeLeft 101 = .ok (.iload 10, 2) := by decide +kernel
theorem dX8_writeLeft_103 : decode cX8_writeLeft 103 = .ok (.iaload, 1) := by decide +kernel
theorem dX8_writeLeft_104 : decode cX8_writeLeft 104 = .ok (.aload_n 0, 1) := by decide +kernel
theorem dX8_writeLeft_105 : decode cX8_writeLeft 105 = .ok (.getfield 27, 3) := by decide +kernel
theorem dX8_writeLeft_108 : decode cX8_writeLeft 108 = .ok (.getfield 94, 3) := by decide +kernel
theorem dX8_writeLeft_111 : decode cX8_writeLeft 111 = .ok (.iload 5, 2) := by decide +kernel
theorem dX8_writeLeft_113 : decode cX8_writeLeft 113 = .ok (.iaload, 1) := by decide +kernel
theorem dX8_writeLeft_114 : decode cX8_writeLeft 114 = .ok (.if_icmp .ne 7, 3) := by decide +kernel
theorem dX8_writeLeft_117 : decode cX8_writeLeft 117 = .ok (.iconst 1, 1) := by decide +kernel
theorem dX8_writeLeft_118 : decode cX8_writeLeft 118 = .ok (.goto 4, 3) := by decide +kernel
theorem dX8_writeLeft_121 : decode cX8_writeLeft 121 = .ok (.iconst 0, 1) := by decide +kernel
theorem dX8_writeLeft_122 : decode cX8_writeLeft 122 = .ok (.istore 8, 2) := by decide +kernel
theorem dX8_writeLeft_124 : decode cX8_writeLeft 124 = .ok (.iinc 9 1, 3) := by decide +kernel
theorem dX8_writeLeft_127 : decode cX8_writeLeft 127 = .ok (.goto (-109), 3) := by decide +kernel
theorem dX8_writeLeft_130 : decode cX8_writeLeft 130 = .ok (.iload_n 3, 1) := by decide +kernel
theorem dX8_writeLeft_131 : decode cX8_writeLeft 131 = .ok (.invokestatic 55, 3) := by decide +kernel
theorem dX8_writeLeft_134 : decode cX8_writeLeft 134 = .ok (.aload_n 0, 1) := by decide +kernel
theorem dX8_writeLeft_135 : decode cX8_writeLeft 135 = .ok (.getfield 27, 3) := by decide +kernel
theorem dX8_writeLeft_138 : decode cX8_writeLeft 138 = .ok (.getfield 66, 3) := by decide +kernel
theorem dX8_writeLeft_141 : decode cX8_writeLeft 141 = .ok (.if_icmp .ne 15, 3) := by decide +kernel
theorem dX8_writeLeft_144 : decode cX8_writeLeft 144 = .ok (.iload_n 3, 1) := by decide +kernel
theorem dX8_writeLeft_145 : decode cX8_writeLeft 145 = .ok (.invokestatic 74, 3) := by decide +kernel
theorem dX8_writeLeft_148 : decode cX8_writeLeft 148 = .ok (.iconst (-1), 1) := by decide +kernel
theorem dX8_writeLeft_149 : decode cX8_writeLeft 149 = .ok (.if_icmp .eq 7, 3) := by decide +kernel
theorem dX8_writeLeft_152 : decode cX8_writeLeft 152 = .ok (.iconst 1, 1) := by decide +kernel
theorem dX8_writeLeft_153 : decode cX8_writeLeft 153 = .ok (.goto 4, 3) := by decide +kernel
theorem dX8_writeLeft_156 : decode cX8_writeLeft 156 = .ok (.iconst 0, 1) := by decide +kernel
theorem dX8_writeLeft_157 : decode cX8_writeLeft 157 = .ok (.istore 9, 2) := by decide +kernel
theorem dX8_writeLeft_159 : decode cX8_writeLeft 159 = .ok (.iload 9, 2) := by decide +kernel
theorem dX8_writeLeft_161 : decode cX8_writeLeft 161 = .ok (.ifCond .ne 18, 3) := by decide +kernel
theorem dX8_writeLeft_164 : decode cX8_writeLeft 164 = .ok (.iload 6, 2) := by decide +kernel
theorem dX8_writeLeft_166 : decode cX8_writeLeft 166 = .ok (.ifCond .eq 17, 3) := by decide +kernel
theorem dX8_writeLeft_169 : decode cX8_writeLeft 169 = .ok (.iload 7, 2) := by decide +kernel
theorem dX8_writeLeft_171 : decode cX8_writeLeft 171 = .ok (.ifCond .eq 8, 3) := by decide +kernel
theorem dX8_writeLeft_174 : decode cX8_writeLeft 174 = .ok (.iload 8, 2) := by decide +kernel
theorem dX8_writeLeft_176 : decode cX8_writeLeft 176 = .ok (.ifCond .eq 7, 3) := by decide +kernel
theorem dX8_writeLeft_179 : decode cX8_writeLeft 179 = .ok (.iconst 1, 1) := by decide +kernel
theorem dX8_writeLeft_180 : decode cX8_writeLeft 180 = .ok (.goto 4, 3) := by decide +kernel
theorem dX8_writeLeft_183 : decode cX8_writeLeft 183 = .ok (.iconst 0, 1) := by decide +kernel
theorem dX8_writeLeft_184 : decode cX8_writeLeft 184 = .ok (.istore 10, 2) := by decide +kernel
theorem dX8_writeLeft_186 : decode cX8_writeLeft 186 = .ok (.iload 7, 2) := by decide +kernel
theorem dX8_writeLeft_188 : decode cX8_writeLeft 188 = .ok (.ifCond .eq 17, 3) := by decide +kernel
theorem dX8_writeLeft_191 : decode cX8_writeLeft 191 = .ok (.iload 9, 2) := by decide +kernel
theorem dX8_writeLeft_193 : decode cX8_writeLeft 193 = .ok (.ifCond .ne 8, 3) := by decide +kernel
theorem dX8_writeLeft_196 : decode cX8_writeLeft 196 = .ok (.iload 6, 2) := by decide +kernel
theorem dX8_writeLeft_198 : decode cX8_writeLeft 198 = .ok (.ifCond .eq 7, 3) := by decide +kernel
theorem dX8_writeLeft_201 : decode cX8_writeLeft 201 = .ok (.iconst 1, 1) := by decide +kernel
theorem dX8_writeLeft_202 : decode cX8_writeLeft 202 = .ok (.goto 4, 3) := by decide +kernel
theorem dX8_writeLeft_205 : decode cX8_writeLeft 205 = .ok (.iconst 0, 1) := by decide +kernel
theorem dX8_writeLeft_206 : decode cX8_writeLeft 206 = .ok (.istore 11, 2) := by decide +kernel
theorem dX8_writeLeft_208 : decode cX8_writeLeft 208 = .ok (.iload 10, 2) := by decide +kernel
theorem dX8_writeLeft_210 : decode cX8_writeLeft 210 = .ok (.ifCond .eq 21, 3) := by decide +kernel
theorem dX8_writeLeft_213 : decode cX8_writeLeft 213 = .ok (.aload 4, 2) := by decide +kernel
theorem dX8_writeLeft_215 : decode cX8_writeLeft 215 = .ok (.bipush 97, 2) := by decide +kernel
theorem dX8_writeLeft_217 : decode cX8_writeLeft 217 = .ok (.aload_n 0, 1) := by decide +kernel
theorem dX8_writeLeft_218 : decode cX8_writeLeft 218 = .ok (.getfield 27, 3) := by decide +kernel
theorem dX8_writeLeft_221 : decode cX8_writeLeft 221 = .ok (.getfield 90, 3) := by decide +kernel
theorem dX8_writeLeft_224 : decode cX8_writeLeft 224 = .ok (.iload 5, 2) := by decide +kernel
theorem dX8_writeLeft_226 : decode cX8_writeLeft 226 = .ok (.iaload, 1) := by decide +kernel
theorem dX8_writeLeft_227 : decode cX8_writeLeft 227 = .ok (.iadd, 1) := by decide +kernel
theorem dX8_writeLeft_228 : decode cX8_writeLeft 228 = .ok (.invokevirtual 63, 3) := by decide +kernel
theorem dX8_writeLeft_231 : decode cX8_writeLeft 231 = .ok (.iload 11, 2) := by decide +kernel
theorem dX8_writeLeft_233 : decode cX8_writeLeft 233 = .ok (.ifCond .eq 21, 3) := by decide +kernel
theorem dX8_writeLeft_236 : decode cX8_writeLeft 236 = .ok (.aload 4, 2) := by decide +kernel
theorem dX8_writeLeft_238 : decode cX8_writeLeft 238 = .ok (.bipush 49, 2) := by decide +kernel
theorem dX8_writeLeft_240 : decode cX8_writeLeft 240 = .ok (.aload_n 0, 1) := by decide +kernel
theorem dX8_writeLeft_241 : decode cX8_writeLeft 241 = .ok (.getfield 27, 3) := by decide +kernel
theorem dX8_writeLeft_244 : decode cX8_writeLeft 244 = .ok (.getfield 94, 3) := by decide +kernel
theorem dX8_writeLeft_247 : decode cX8_writeLeft 247 = .ok (.iload 5, 2) := by decide +kernel
theorem dX8_writeLeft_249 : decode cX8_writeLeft 249 = .ok (.iaload, 1) := by decide +kernel
theorem dX8_writeLeft_250 : decode cX8_writeLeft 250 = .ok (.iadd, 1) := by decide +kernel
theorem dX8_writeLeft_251 : decode cX8_writeLeft 251 = .ok (.invokevirtual 63, 3) := by decide +kernel
theorem dX8_writeLeft_254 : decode cX8_writeLeft 254 = .ok (.return_, 1) := by decide +kernel
def sX8_writeLeft_254 (F : Nat) (h : Hp) : Option (Hp) := some h
def sX8_writeLeft_231 (F : Nat) (h : Hp) (x0 : Nat) (x4 : Nat) (x5 : Int32) (x11 : Int32) : Option (Hp) := br (x11 = 0) (sX8_writeLeft_254 F h ) (cl (hR h x0 0) fun r_2 => cl (hR h r_2 20) fun r_3 => gd (inB x5 (hN h r_3)) <| cl (sX9_append h x4 ((49 : Int32) + (hI h r_3 x5.toNatClampNeg))) fun o_5 => sX8_writeLeft_254 F o_5 )
def sX8_writeLeft_206 (F : Nat) (h : Hp) (x0 : Nat) (x4 : Nat) (x5 : Int32) (x10 : Int32) (t0 : Int32) : Option (Hp) := br (x10 = 0) (sX8_writeLeft_231 F h x0 x4 x5 t0) (cl (hR h x0 0) fun r_2 => cl (hR h r_2 19) fun r_3 => gd (inB x5 (hN h r_3)) <| cl (sX9_append h x4 ((97 : Int32) + (hI h r_3 x5.toNatClampNeg))) fun o_5 => sX8_writeLeft_231 F o_5 x0 x4 x5 t0)
def sX8_writeLeft_205 (F : Nat) (h : Hp) (x0 : Nat) (x4 : Nat) (x5 : Int32) (x10 : Int32) : Option (Hp) := sX8_writeLeft_206 F h x0 x4 x5 x10 (0 : Int32)
def sX8_writeLeft_201 (F : Nat) (h : Hp) (x0 : Nat) (x4 : Nat) (x5 : Int32) (x10 : Int32) : Option (Hp) := sX8_writeLeft_206 F h x0 x4 x5 x10 (1 : Int32)
def sX8_writeLeft_184 (F : Nat) (h : Hp) (x0 : Nat) (x4 : Nat) (x5 : Int32) (x6 : Int32) (x7 : Int32) (x9 : Int32) (t0 : Int32) : Option (Hp) := br (x7 = 0) (sX8_writeLeft_205 F h x0 x4 x5 t0) (br (x9 = 0) (br (x6 = 0) (sX8_writeLeft_205 F h x0 x4 x5 t0) (sX8_writeLeft_201 F h x0 x4 x5 t0)) (sX8_writeLeft_201 F h x0 x4 x5 t0))
def sX8_writeLeft_179 (F : Nat) (h : Hp) (x0 : Nat) (x4 : Nat) (x5 : Int32) (x6 : Int32) (x7 : Int32) (x9 : Int32) : Option (Hp) := sX8_writeLeft_184 F h x0 x4 x5 x6 x7 x9 (1 : Int32)
def sX8_writeLeft_183 (F : Nat) (h : Hp) (x0 : Nat) (x4 : Nat) (x5 : Int32) (x6 : Int32) (x7 : Int32) (x9 : Int32) : Option (Hp) := sX8_writeLeft_184 F h x0 x4 x5 x6 x7 x9 (0 : Int32)
def sX8_writeLeft_157 (F : Nat) (h : Hp) (x0 : Nat) (x4 : Nat) (x5 : Int32) (x6 : Int32) (x7 : Int32) (x8 : Int32) (t0 : Int32) : Option (Hp) := br (t0 = 0) (br (x6 = 0) (sX8_writeLeft_183 F h x0 x4 x5 x6 x7 t0) (br (x7 = 0) (sX8_writeLeft_179 F h x0 x4 x5 x6 x7 t0) (br (x8 = 0) (sX8_writeLeft_183 F h x0 x4 x5 x6 x7 t0) (sX8_writeLeft_179 F h x0 x4 x5 x6 x7 t0)))) (sX8_writeLeft_179 F h x0 x4 x5 x6 x7 t0)
def sX8_writeLeft_156 (F : Nat) (h : Hp) (x0 : Nat) (x4 : Nat) (x5 : Int32) (x6 : Int32) (x7 : Int32) (x8 : Int32) : Option (Hp) := sX8_writeLeft_157 F h x0 x4 x5 x6 x7 x8 (0 : Int32)
def sX8_writeLeft_124 (F : Nat) (k_18 : Hp → Nat → Nat → Int32 → Int32 → Nat → Int32 → Int32 → Int32 → Int32 → Int32 → Option (Hp)) (h : Hp) (x0 : Nat) (x1 : Nat) (x2 : Int32) (x3 : Int32) (x4 : Nat) (x5 : Int32) (x6 : Int32) (x7 : Int32) (x8 : Int32) (x9 : Int32) : Option (Hp) := nm (x9 + (1 : Int32)) fun v_1 => k_18 h x0 x1 x2 x3 x4 x5 x6 x7 x8 v_1
def sX8_writeLeft_122 (F : Nat) (k_18 : Hp → Nat → Nat → Int32 → Int32 → Nat → Int32 → Int32 → Int32 → Int32 → Int32 → Option (Hp)) (h : Hp) (x0 : Nat) (x1 : Nat) (x2 : Int32) (x3 : Int32) (x4 : Nat) (x5 : Int32) (x6 : Int32) (x7 : Int32) (x9 : Int32) (t0 : Int32) : Option (Hp) := sX8_writeLeft_124 F k_18 h x0 x1 x2 x3 x4 x5 x6 x7 t0 x9
def sX8_writeLeft_117 (F : Nat) (k_18 : Hp → Nat → Nat → Int32 → Int32 → Nat → Int32 → Int32 → Int32 → Int32 → Int32 → Option (Hp)) (h : Hp) (x0 : Nat) (x1 : Nat) (x2 : Int32) (x3 : Int32) (x4 : Nat) (x5 : Int32) (x6 : Int32) (x7 : Int32) (x9 : Int32) : Option (Hp) := sX8_writeLeft_122 F k_18 h x0 x1 x2 x3 x4 x5 x6 x7 x9 (1 : Int32)
def sX8_writeLeft_87 (F : Nat) (k_18 : Hp → Nat → Nat → Int32 → Int32 → Nat → Int32 → Int32 → Int32 → Int32 → Int32 → Option (Hp)) (h : Hp) (x0 : Nat) (x1 : Nat) (x2 : Int32) (x3 : Int32) (x4 : Nat) (x5 : Int32) (x6 : Int32) (x8 : Int32) (x9 : Int32) (x10 : Int32) (t0 : Int32) : Option (Hp) := br (x8 = 0) (cl (hR h x0 0) fun r_2 => cl (hR h r_2 20) fun r_3 => gd (inB x10 (hN h r_3)) <| cl (hR h x0 0) fun r_5 => cl (hR h r_5 20) fun r_6 => gd (inB x5 (hN h r_6)) <| br ((hI h r_3 x10.toNatClampNeg) = (hI h r_6 x5.toNatClampNeg)) (sX8_writeLeft_117 F k_18 h x0 x1 x2 x3 x4 x5 x6 t0 x9) (sX8_writeLeft_122 F k_18 h x0 x1 x2 x3 x4 x5 x6 t0 x9 (0 : Int32))) (sX8_writeLeft_117 F k_18 h x0 x1 x2 x3 x4 x5 x6 t0 x9)
def sX8_writeLeft_82 (F : Nat) (k_18 : Hp → Nat → Nat → Int32 → Int32 → Nat → Int32 → Int32 → Int32 → Int32 → Int32 → Option (Hp)) (h : Hp) (x0 : Nat) (x1 : Nat) (x2 : Int32) (x3 : Int32) (x4 : Nat) (x5 : Int32) (x6 : Int32) (x8 : Int32) (x9 : Int32) (x10 : Int32) : Option (Hp) := sX8_writeLeft_87 F k_18 h x0 x1 x2 x3 x4 x5 x6 x8 x9 x10 (1 : Int32)
def sX8_writeLeft_18 (F : Nat) : Nat → Hp → Nat → Nat → Int32 → Int32 → Nat → Int32 → Int32 → Int32 → Int32 → Int32 → Option (Hp)
  | 0, _, _, _, _, _, _, _, _, _, _, _ => none
  | f + 1, h, x0, x1, x2, x3, x4, x5, x6, x7, x8, x9 => br (x2 ≤ x9) (cl (sX5_manOf h x3) fun o_2 => cl (hR o_2.2 x0 0) fun r_3 => br (o_2.1 = (hI o_2.2 r_3 5)) (cl (sX5_takenBy o_2.2 x3) fun o_5 => br (o_5.1 = (-1 : Int32)) (sX8_writeLeft_156 F o_5.2 x0 x4 x5 x6 x7 x8) (sX8_writeLeft_157 F o_5.2 x0 x4 x5 x6 x7 x8 (1 : Int32))) (sX8_writeLeft_156 F o_2.2 x0 x4 x5 x6 x7 x8)) (gd (inB x9 (hN h x1)) <| cl (sX5_leftBy h (hI h x1 x9.toNatClampNeg)) fun o_8 => br (o_8.1 = x5) (sX8_writeLeft_124 F (sX8_writeLeft_18 F f) o_8.2 x0 x1 x2 x3 x4 x5 x6 x7 x8 x9) (gd (inB x9 (hN o_8.2 x1)) <| cl (sX8_isRival o_8.2 (hI o_8.2 x1 x9.toNatClampNeg) x3) fun o_11 => br (o_11.1 = 0) (sX8_writeLeft_124 F (sX8_writeLeft_18 F f) o_11.2 x0 x1 x2 x3 x4 x5 x6 x7 x8 x9) (br (x7 = 0) (cl (hR o_11.2 x0 0) fun r_14 => cl (hR o_11.2 r_14 19) fun r_15 => gd (inB o_8.1 (hN o_11.2 r_15)) <| cl (hR o_11.2 x0 0) fun r_17 => cl (hR o_11.2 r_17 19) fun r_18 => gd (inB x5 (hN o_11.2 r_18)) <| br ((hI o_11.2 r_15 o_8.1.toNatClampNeg) = (hI o_11.2 r_18 x5.toNatClampNeg)) (sX8_writeLeft_82 F (sX8_writeLeft_18 F f) o_11.2 x0 x1 x2 x3 x4 x5 (1 : Int32) x8 x9 o_8.1) (sX8_writeLeft_87 F (sX8_writeLeft_18 F f) o_11.2 x0 x1 x2 x3 x4 x5 (1 : Int32) x8 x9 o_8.1 (0 : Int32))) (sX8_writeLeft_82 F (sX8_writeLeft_18 F f) o_11.2 x0 x1 x2 x3 x4 x5 (1 : Int32) x8 x9 o_8.1))))
def sX8_writeLeft (F : Nat) (h : Hp) (x0 : Nat) (x1 : Nat) (x2 : Int32) (x3 : Int32) (x4 : Nat) : Option (Hp) := cl (sX5_leftBy h x3) fun o_1 => sX8_writeLeft_18 F F o_1.2 x0 x1 x2 x3 x4 o_1.1 (0 : Int32) (0 : Int32) (0 : Int32) (0 : Int32)
set_option maxRecDepth 20000 in
theorem bX8_writeLeft_254 {p : Program} {l : Launch} {e : Env} {s : State} {m : MethodId} {args : Array Value} {below : List Frame} {meth : Method} {c : Code} {X : Ec} {h0 : Hp} {o : Hp} {F : Nat} (C : Cx X p s m args meth c RX8 cX8_writeLeft 12 none "writeLeft") {h : Hp} {H : Heap} {locs : List Loc} (hkm : Km h0 h) (hW : Wx X h H) (hZ : va_S (aA (eB X)) s.heap H locs) (ls : Array Slot) (hl : lv_has ls 12 []) (hE : sX8_writeLeft_254 F h  = some o) : W p l e (rm 2 41) s m args below meth c H locs 0 0 (MQ below (QV X h0 o) args s 0 0 (aA (eB X))) (F0 m 254 ls []) := by
  exact x_vret C rfl hW hZ hkm hE dX8_writeLeft_254
set_option maxRecDepth 20000 in
theorem bX8_writeLeft_231 {p : Program} {l : Launch} {e : Env} {s : State} {m : MethodId} {args : Array Value} {below : List Frame} {meth : Method} {c : Code} {X : Ec} {h0 : Hp} {o : Hp} {F : Nat} (C : Cx X p s m args meth c RX8 cX8_writeLeft 12 none "writeLeft") {h : Hp} {x0 : Nat} {x4 : Nat} {x5 : Int32} {x11 : Int32} {H : Heap} {locs : List Loc} (k_x0 : hK h x0 = 8) (k_x4 : hK h x4 = 9) (hkm : Km h0 h) (hW : Wx X h H) (hZ : va_S (aA (eB X)) s.heap H locs) (ls : Array Slot) (hl : lv_has ls 12 [(0, .ref x0), (4, .ref x4), (5, .int x5), (11, .int x11)]) (hE : sX8_writeLeft_231 F h x0 x4 x5 x11 = some o) : W p l e (rm 2 41) s m args below meth c H locs 0 0 (MQ below (QV X h0 o) args s 0 0 (aA (eB X))) (F0 m 231 ls []) := by
  refine lv_iload C.1 C.2.1 dX8_writeLeft_231 (lv_at hl 3 rfl) ?_
  refine lv_if_eq (tgt := 254) C.1 C.2.1 dX8_writeLeft_233 (by decide) (fun c_1 => ?_) (fun c_1 => ?_)
  · have hE := br_p hE c_1
    exact bX8_writeLeft_254 C hkm hW hZ _ (lv_sub hl [] rfl) hE
  · have hE := br_n hE c_1
    refine lv_aload C.1 C.2.1 dX8_writeLeft_236 (lv_at hl 1 rfl) ?_
    refine lv_bipush (v := (49 : Int32)) C.1 C.2.1 dX8_writeLeft_238 (by decide) ?_
    refine lv_aload_n C.1 C.2.1 dX8_writeLeft_240 rfl (lv_at hl 0 rfl) ?_
    obtain ⟨r_2, er_2, hE⟩ := cl_e hE
    refine gf_X8_27 C hW k_x0 er_2 dX8_writeLeft_241 (fun k_r_2 => ?_)
    obtain ⟨r_3, er_3, hE⟩ := cl_e hE
    refine gf_X8_94 C hW k_r_2 er_3 dX8_writeLeft_244 (fun k_r_3 => ?_)
    refine lv_iload C.1 C.2.1 dX8_writeLeft_247 (lv_at hl 2 rfl) ?_
    obtain ⟨g_4, hE⟩ := gd_e hE
    refine y_iald C hW k_r_3 g_4 dX8_writeLeft_249 ?_
    refine lv_iadd C.1 C.2.1 dX8_writeLeft_250 ?_
    obtain ⟨o_5, eo_5, hE⟩ := cl_e hE
    refine x_kV (o := o_5) (z_runV (As := [.int ((49 : Int32) + (hI h r_3 x5.toNatClampNeg))]) (rest := []) C (ct_X9_append l X k_x4 eo_5) cw_X8_63 hW hZ k_x4 (by decide) rfl rfl rfl hl.1 (Nat.le_of_ble_eq_true rfl) rfl dX8_writeLeft_251 ⟨Nat.le_of_ble_eq_true rfl, Nat.le_of_ble_eq_true rfl⟩ ⟨Nat.le_refl _, Nat.le_refl _⟩) hZ (fun _ _ hW km hZ => ?_)
    replace hkm := hkm.tr km
    replace k_x0 := km.at k_x0 (by decide)
    replace k_x4 := km.at k_x4 (by decide)
    exact bX8_writeLeft_254 C hkm hW hZ _ (lv_sub hl [] rfl) hE
set_option maxRecDepth 20000 in
theorem bX8_writeLeft_206 {p : Program} {l : Launch} {e : Env} {s : State} {m : MethodId} {args : Array Value} {below : List Frame} {meth : Method} {c : Code} {X : Ec} {h0 : Hp} {o : Hp} {F : Nat} (C : Cx X p s m args meth c RX8 cX8_writeLeft 12 none "writeLeft") {h : Hp} {x0 : Nat} {x4 : Nat} {x5 : Int32} {x10 : Int32} {t0 : Int32} {H : Heap} {locs : List Loc} (k_x0 : hK h x0 = 8) (k_x4 : hK h x4 = 9) (hkm : Km h0 h) (hW : Wx X h H) (hZ : va_S (aA (eB X)) s.heap H locs) (ls : Array Slot) (hl : lv_has ls 12 [(0, .ref x0), (4, .ref x4), (5, .int x5), (10, .int x10)]) (hE : sX8_writeLeft_206 F h x0 x4 x5 x10 t0 = some o) : W p l e (rm 2 41) s m args below meth c H locs 0 0 (MQ below (QV X h0 o) args s 0 0 (aA (eB X))) (F0 m 206 ls [.int t0]) := by
  refine lv_istore (lv' := [(11, .int t0), (0, .ref x0), (4, .ref x4), (5, .int x5), (10, .int x10)]) C.1 C.2.1 dX8_writeLeft_206 hl (by decide) rfl (fun ls hl => ?_)
  refine lv_iload C.1 C.2.1 dX8_writeLeft_208 (lv_at hl 4 rfl) ?_
  refine lv_if_eq (tgt := 231) C.1 C.2.1 dX8_writeLeft_210 (by decide) (fun c_1 => ?_) (fun c_1 => ?_)
  · have hE := br_p hE c_1
    exact bX8_writeLeft_231 C k_x0 k_x4 hkm hW hZ _ (lv_sub hl [1, 2, 3, 0] rfl) hE
  · have hE := br_n hE c_1
    refine lv_aload C.1 C.2.1 dX8_writeLeft_213 (lv_at hl 2 rfl) ?_
    refine lv_bipush (v := (97 : Int32)) C.1 C.2.1 dX8_writeLeft_215 (by decide) ?_
    refine lv_aload_n C.1 C.2.1 dX8_writeLeft_217 rfl (lv_at hl 1 rfl) ?_
    obtain ⟨r_2, er_2, hE⟩ := cl_e hE
    refine gf_X8_27 C hW k_x0 er_2 dX8_writeLeft_218 (fun k_r_2 => ?_)
    obtain ⟨r_3, er_3, hE⟩ := cl_e hE
    refine gf_X8_90 C hW k_r_2 er_3 dX8_writeLeft_221 (fun k_r_3 => ?_)
    refine lv_iload C.1 C.2.1 dX8_writeLeft_224 (lv_at hl 3 rfl) ?_
    obtain ⟨g_4, hE⟩ := gd_e hE
    refine y_iald C hW k_r_3 g_4 dX8_writeLeft_226 ?_
    refine lv_iadd C.1 C.2.1 dX8_writeLeft_227 ?_
    obtain ⟨o_5, eo_5, hE⟩ := cl_e hE
    refine x_kV (o := o_5) (z_runV (As := [.int ((97 : Int32) + (hI h r_3 x5.toNatClampNeg))]) (rest := []) C (ct_X9_append l X k_x4 eo_5) cw_X8_63 hW hZ k_x4 (by decide) rfl rfl rfl hl.1 (Nat.le_of_ble_eq_true rfl) rfl dX8_writeLeft_228 ⟨Nat.le_of_ble_eq_true rfl, Nat.le_of_ble_eq_true rfl⟩ ⟨Nat.le_refl _, Nat.le_refl _⟩) hZ (fun _ _ hW km hZ => ?_)
    replace hkm := hkm.tr km
    replace k_x0 := km.at k_x0 (by decide)
    replace k_x4 := km.at k_x4 (by decide)
    exact bX8_writeLeft_231 C k_x0 k_x4 hkm hW hZ _ (lv_sub hl [1, 2, 3, 0] rfl) hE
set_option maxRecDepth 20000 in
theorem bX8_writeLeft_205 {p : Program} {l : Launch} {e : Env} {s : State} {m : MethodId} {args : Array Value} {below : List Frame} {meth : Method} {c : Code} {X : Ec} {h0 : Hp} {o : Hp} {F : Nat} (C : Cx X p s m args meth c RX8 cX8_writeLeft 12 none "writeLeft") {h : Hp} {x0 : Nat} {x4 : Nat} {x5 : Int32} {x10 : Int32} {H : Heap} {locs : List Loc} (k_x0 : hK h x0 = 8) (k_x4 : hK h x4 = 9) (hkm : Km h0 h) (hW : Wx X h H) (hZ : va_S (aA (eB X)) s.heap H locs) (ls : Array Slot) (hl : lv_has ls 12 [(0, .ref x0), (4, .ref x4), (5, .int x5), (10, .int x10)]) (hE : sX8_writeLeft_205 F h x0 x4 x5 x10 = some o) : W p l e (rm 2 41) s m args below meth c H locs 0 0 (MQ below (QV X h0 o) args s 0 0 (aA (eB X))) (F0 m 205 ls []) := by
  refine lv_iconst (v := (0 : Int32)) C.1 C.2.1 dX8_writeLeft_205 (by decide) ?_
  exact bX8_writeLeft_206 C k_x0 k_x4 hkm hW hZ _ (lv_sub hl [0, 1, 2, 3] rfl) hE
set_option maxRecDepth 20000 in
theorem bX8_writeLeft_201 {p : Program} {l : Launch} {e : Env} {s : State} {m : MethodId} {args : Array Value} {below : List Frame} {meth : Method} {c : Code} {X : Ec} {h0 : Hp} {o : Hp} {F : Nat} (C : Cx X p s m args meth c RX8 cX8_writeLeft 12 none "writeLeft") {h : Hp} {x0 : Nat} {x4 : Nat} {x5 : Int32} {x10 : Int32} {H : Heap} {locs : List Loc} (k_x0 : hK h x0 = 8) (k_x4 : hK h x4 = 9) (hkm : Km h0 h) (hW : Wx X h H) (hZ : va_S (aA (eB X)) s.heap H locs) (ls : Array Slot) (hl : lv_has ls 12 [(0, .ref x0), (4, .ref x4), (5, .int x5), (10, .int x10)]) (hE : sX8_writeLeft_201 F h x0 x4 x5 x10 = some o) : W p l e (rm 2 41) s m args below meth c H locs 0 0 (MQ below (QV X h0 o) args s 0 0 (aA (eB X))) (F0 m 201 ls []) := by
  refine lv_iconst (v := (1 : Int32)) C.1 C.2.1 dX8_writeLeft_201 (by decide) ?_
  refine lv_goto (tgt := 206) C.1 C.2.1 dX8_writeLeft_202 (by decide) ?_
  exact bX8_writeLeft_206 C k_x0 k_x4 hkm hW hZ _ (lv_sub hl [0, 1, 2, 3] rfl) hE
set_option maxRecDepth 20000 in
theorem bX8_writeLeft_184 {p : Program} {l : Launch} {e : Env} {s : State} {m : MethodId} {args : Array Value} {below : List Frame} {meth : Method} {c : Code} {X : Ec} {h0 : Hp} {o : Hp} {F : Nat} (C : Cx X p s m args meth c RX8 cX8_writeLeft 12 none "writeLeft") {h : Hp} {x0 : Nat} {x4 : Nat} {x5 : Int32} {x6 : Int32} {x7 : Int32} {x9 : Int32} {t0 : Int32} {H : Heap} {locs : List Loc} (k_x0 : hK h x0 = 8) (k_x4 : hK h x4 = 9) (hkm : Km h0 h) (hW : Wx X h H) (hZ : va_S (aA (eB X)) s.heap H locs) (ls : Array Slot) (hl : lv_has ls 12 [(0, .ref x0), (4, .ref x4), (5, .int x5), (6, .int x6), (7, .int x7), (9, .int x9)]) (hE : sX8_writeLeft_184 F h x0 x4 x5 x6 x7 x9 t0 = some o) : W p l e (rm 2 41) s m args below meth c H locs 0 0 (MQ below (QV X h0 o) args s 0 0 (aA (eB X))) (F0 m 184 ls [.int t0]) := by
  refine lv_istore (lv' := [(10, .int t0), (0, .ref x0), (4, .ref x4), (5, .int x5), (6, .int x6), (7, .int x7), (9, .int x9)]) C.1 C.2.1 dX8_writeLeft_184 hl (by decide) rfl (fun ls hl => ?_)
  refine lv_iload C.1 C.2.1 dX8_writeLeft_186 (lv_at hl 5 rfl) ?_
  refine lv_if_eq (tgt := 205) C.1 C.2.1 dX8_writeLeft_188 (by decide) (fun c_1 => ?_) (fun c_1 => ?_)
  · have hE := br_p hE c_1
    exact bX8_writeLeft_205 C k_x0 k_x4 hkm hW hZ _ (lv_sub hl [1, 2, 3, 0] rfl) hE
  · have hE := br_n hE c_1
    refine lv_iload C.1 C.2.1 dX8_writeLeft_191 (lv_at hl 6 rfl) ?_
    refine lv_if_ne (tgt := 201) C.1 C.2.1 dX8_writeLeft_193 (by decide) (fun c_2 => ?_) (fun c_2 => ?_)
    · have hE := br_n hE c_2
      exact bX8_writeLeft_201 C k_x0 k_x4 hkm hW hZ _ (lv_sub hl [1, 2, 3, 0] rfl) hE
    · have hE := br_p hE c_2
      refine lv_iload C.1 C.2.1 dX8_writeLeft_196 (lv_at hl 4 rfl) ?_
      refine lv_if_eq (tgt := 205) C.1 C.2.1 dX8_writeLeft_198 (by decide) (fun c_3 => ?_) (fun c_3 => ?_)
      · have hE := br_p hE c_3
        exact bX8_writeLeft_205 C k_x0 k_x4 hkm hW hZ _ (lv_sub hl [1, 2, 3, 0] rfl) hE
      · have hE := br_n hE c_3
        exact bX8_writeLeft_201 C k_x0 k_x4 hkm hW hZ _ (lv_sub hl [1, 2, 3, 0] rfl) hE
set_option maxRecDepth 20000 in
theorem bX8_writeLeft_179 {p : Program} {l : Launch} {e : Env} {s : State} {m : MethodId} {args : Array Value} {below : List Frame} {meth : Method} {c : Code} {X : Ec} {h0 : Hp} {o : Hp} {F : Nat} (C : Cx X p s m args meth c RX8 cX8_writeLeft 12 none "writeLeft") {h : Hp} {x0 : Nat} {x4 : Nat} {x5 : Int32} {x6 : Int32} {x7 : Int32} {x9 : Int32} {H : Heap} {locs : List Loc} (k_x0 : hK h x0 = 8) (k_x4 : hK h x4 = 9) (hkm : Km h0 h) (hW : Wx X h H) (hZ : va_S (aA (eB X)) s.heap H locs) (ls : Array Slot) (hl : lv_has ls 12 [(0, .ref x0), (4, .ref x4), (5, .int x5), (6, .int x6), (7, .int x7), (9, .int x9)]) (hE : sX8_writeLeft_179 F h x0 x4 x5 x6 x7 x9 = some o) : W p l e (rm 2 41) s m args below meth c H locs 0 0 (MQ below (QV X h0 o) args s 0 0 (aA (eB X))) (F0 m 179 ls []) := by
  refine lv_iconst (v := (1 : Int32)) C.1 C.2.1 dX8_writeLeft_179 (by decide) ?_
  refine lv_goto (tgt := 184) C.1 C.2.1 dX8_writeLeft_180 (by decide) ?_
  exact bX8_writeLeft_184 C k_x0 k_x4 hkm hW hZ _ (lv_sub hl [0, 1, 2, 3, 4, 5] rfl) hE
set_option maxRecDepth 20000 in
theorem bX8_writeLeft_183 {p : Program} {l : Launch} {e : Env} {s : State} {m : MethodId} {args : Array Value} {below : List Frame} {meth : Method} {c : Code} {X : Ec} {h0 : Hp} {o : Hp} {F : Nat} (C : Cx X p s m args meth c RX8 cX8_writeLeft 12 none "writeLeft") {h : Hp} {x0 : Nat} {x4 : Nat} {x5 : Int32} {x6 : Int32} {x7 : Int32} {x9 : Int32} {H : Heap} {locs : List Loc} (k_x0 : hK h x0 = 8) (k_x4 : hK h x4 = 9) (hkm : Km h0 h) (hW : Wx X h H) (hZ : va_S (aA (eB X)) s.heap H locs) (ls : Array Slot) (hl : lv_has ls 12 [(0, .ref x0), (4, .ref x4), (5, .int x5), (6, .int x6), (7, .int x7), (9, .int x9)]) (hE : sX8_writeLeft_183 F h x0 x4 x5 x6 x7 x9 = some o) : W p l e (rm 2 41) s m args below meth c H locs 0 0 (MQ below (QV X h0 o) args s 0 0 (aA (eB X))) (F0 m 183 ls []) := by
  refine lv_iconst (v := (0 : Int32)) C.1 C.2.1 dX8_writeLeft_183 (by decide) ?_
  exact bX8_writeLeft_184 C k_x0 k_x4 hkm hW hZ _ (lv_sub hl [0, 1, 2, 3, 4, 5] rfl) hE
set_option maxRecDepth 20000 in
theorem bX8_writeLeft_157 {p : Program} {l : Launch} {e : Env} {s : State} {m : MethodId} {args : Array Value} {below : List Frame} {meth : Method} {c : Code} {X : Ec} {h0 : Hp} {o : Hp} {F : Nat} (C : Cx X p s m args meth c RX8 cX8_writeLeft 12 none "writeLeft") {h : Hp} {x0 : Nat} {x4 : Nat} {x5 : Int32} {x6 : Int32} {x7 : Int32} {x8 : Int32} {t0 : Int32} {H : Heap} {locs : List Loc} (k_x0 : hK h x0 = 8) (k_x4 : hK h x4 = 9) (hkm : Km h0 h) (hW : Wx X h H) (hZ : va_S (aA (eB X)) s.heap H locs) (ls : Array Slot) (hl : lv_has ls 12 [(0, .ref x0), (4, .ref x4), (5, .int x5), (6, .int x6), (7, .int x7), (8, .int x8)]) (hE : sX8_writeLeft_157 F h x0 x4 x5 x6 x7 x8 t0 = some o) : W p l e (rm 2 41) s m args below meth c H locs 0 0 (MQ below (QV X h0 o) args s 0 0 (aA (eB X))) (F0 m 157 ls [.int t0]) := by
  refine lv_istore (lv' := [(9, .int t0), (0, .ref x0), (4, .ref x4), (5, .int x5), (6, .int x6), (7, .int x7), (8, .int x8)]) C.1 C.2.1 dX8_writeLeft_157 hl (by decide) rfl (fun ls hl => ?_)
  refine lv_iload C.1 C.2.1 dX8_writeLeft_159 (lv_at hl 0 rfl) ?_
  refine lv_if_ne (tgt := 179) C.1 C.2.1 dX8_writeLeft_161 (by decide) (fun c_1 => ?_) (fun c_1 => ?_)
  · have hE := br_n hE c_1
    exact bX8_writeLeft_179 C k_x0 k_x4 hkm hW hZ _ (lv_sub hl [1, 2, 3, 4, 5, 0] rfl) hE
  · have hE := br_p hE c_1
    refine lv_iload C.1 C.2.1 dX8_writeLeft_164 (lv_at hl 4 rfl) ?_
    refine lv_if_eq (tgt := 183) C.1 C.2.1 dX8_writeLeft_166 (by decide) (fun c_2 => ?_) (fun c_2 => ?_)
    · have hE := br_p hE c_2
      exact bX8_writeLeft_183 C k_x0 k_x4 hkm hW hZ _ (lv_sub hl [1, 2, 3, 4, 5, 0] rfl) hE
    · have hE := br_n hE c_2
      refine lv_iload C.1 C.2.1 dX8_writeLeft_169 (lv_at hl 5 rfl) ?_
      refine lv_if_eq (tgt := 179) C.1 C.2.1 dX8_writeLeft_171 (by decide) (fun c_3 => ?_) (fun c_3 => ?_)
      · have hE := br_p hE c_3
        exact bX8_writeLeft_179 C k_x0 k_x4 hkm hW hZ _ (lv_sub hl [1, 2, 3, 4, 5, 0] rfl) hE
      · have hE := br_n hE c_3
        refine lv_iload C.1 C.2.1 dX8_writeLeft_174 (lv_at hl 6 rfl) ?_
        refine lv_if_eq (tgt := 183) C.1 C.2.1 dX8_writeLeft_176 (by decide) (fun c_4 => ?_) (fun c_4 => ?_)
        · have hE := br_p hE c_4
          exact bX8_writeLeft_183 C k_x0 k_x4 hkm hW hZ _ (lv_sub hl [1, 2, 3, 4, 5, 0] rfl) hE
        · have hE := br_n hE c_4
          exact bX8_writeLeft_179 C k_x0 k_x4 hkm hW hZ _ (lv_sub hl [1, 2, 3, 4, 5, 0] rfl) hE
set_option maxRecDepth 20000 in
theorem bX8_writeLeft_156 {p : Program} {l : Launch} {e : Env} {s : State} {m : MethodId} {args : Array Value} {below : List Frame} {meth : Method} {c : Code} {X : Ec} {h0 : Hp} {o : Hp} {F : Nat} (C : Cx X p s m args meth c RX8 cX8_writeLeft 12 none "writeLeft") {h : Hp} {x0 : Nat} {x4 : Nat} {x5 : Int32} {x6 : Int32} {x7 : Int32} {x8 : Int32} {H : Heap} {locs : List Loc} (k_x0 : hK h x0 = 8) (k_x4 : hK h x4 = 9) (hkm : Km h0 h) (hW : Wx X h H) (hZ : va_S (aA (eB X)) s.heap H locs) (ls : Array Slot) (hl : lv_has ls 12 [(0, .ref x0), (4, .ref x4), (5, .int x5), (6, .int x6), (7, .int x7), (8, .int x8)]) (hE : sX8_writeLeft_156 F h x0 x4 x5 x6 x7 x8 = some o) : W p l e (rm 2 41) s m args below meth c H locs 0 0 (MQ below (QV X h0 o) args s 0 0 (aA (eB X))) (F0 m 156 ls []) := by
  refine lv_iconst (v := (0 : Int32)) C.1 C.2.1 dX8_writeLeft_156 (by decide) ?_
  exact bX8_writeLeft_157 C k_x0 k_x4 hkm hW hZ _ (lv_sub hl [0, 1, 2, 3, 4, 5] rfl) hE
set_option maxRecDepth 20000 in
theorem bX8_writeLeft_124 {p : Program} {l : Launch} {e : Env} {s : State} {m : MethodId} {args : Array Value} {below : List Frame} {meth : Method} {c : Code} {X : Ec} {h0 : Hp} {o : Hp} {k_18 : Hp → Nat → Nat → Int32 → Int32 → Nat → Int32 → Int32 → Int32 → Int32 → Int32 → Option (Hp)} {F : Nat} (C : Cx X p s m args meth c RX8 cX8_writeLeft 12 none "writeLeft") (hk_18 : ∀ (h : Hp) (x0 : Nat) (x1 : Nat) (x2 : Int32) (x3 : Int32) (x4 : Nat) (x5 : Int32) (x6 : Int32) (x7 : Int32) (x8 : Int32) (x9 : Int32) (H : Heap) (locs : List Loc), hK h x0 = 8 → hK h x1 = 17 → hK h x4 = 9 → Km h0 h → Wx X h H → va_S (aA (eB X)) s.heap H locs → ∀ (ls : Array Slot), lv_has ls 12 [(0, .ref x0), (1, .ref x1), (2, .int x2), (3, .int x3), (4, .ref x4), (5, .int x5), (6, .int x6), (7, .int x7), (8, .int x8), (9, .int x9)] → k_18 h x0 x1 x2 x3 x4 x5 x6 x7 x8 x9 = some o → W p l e (rm 2 41) s m args below meth c H locs 0 0 (MQ below (QV X h0 o) args s 0 0 (aA (eB X))) (F0 m 18 ls [])) {h : Hp} {x0 : Nat} {x1 : Nat} {x2 : Int32} {x3 : Int32} {x4 : Nat} {x5 : Int32} {x6 : Int32} {x7 : Int32} {x8 : Int32} {x9 : Int32} {H : Heap} {locs : List Loc} (k_x0 : hK h x0 = 8) (k_x1 : hK h x1 = 17) (k_x4 : hK h x4 = 9) (hkm : Km h0 h) (hW : Wx X h H) (hZ : va_S (aA (eB X)) s.heap H locs) (ls : Array Slot) (hl : lv_has ls 12 [(0, .ref x0), (1, .ref x1), (2, .int x2), (3, .int x3), (4, .ref x4), (5, .int x5), (6, .int x6), (7, .int x7), (8, .int x8), (9, .int x9)]) (hE : sX8_writeLeft_124 F k_18 h x0 x1 x2 x3 x4 x5 x6 x7 x8 x9 = some o) : W p l e (rm 2 41) s m args below meth c H locs 0 0 (MQ below (QV X h0 o) args s 0 0 (aA (eB X))) (F0 m 124 ls []) := by
  obtain ⟨v_1, ev_1, hE⟩ := nm_e2 hE
  refine lv_iinc (v := v_1) (lv' := [(9, .int v_1), (0, .ref x0), (1, .ref x1), (2, .int x2), (3, .int x3), (4, .ref x4), (5, .int x5), (6, .int x6), (7, .int x7), (8, .int x8)]) C.1 C.2.1 dX8_writeLeft_124 hl (k := 9) rfl (by rw [ev_1]; rfl) (by decide) rfl (fun ls hl => ?_)
  refine lv_goto (tgt := 18) C.1 C.2.1 dX8_writeLeft_127 (by decide) ?_
  exact hk_18 _ _ _ _ _ _ _ _ _ _ _ _ _ k_x0 k_x1 k_x4 hkm hW hZ _ (lv_sub hl [1, 2, 3, 4, 5, 6, 7, 8, 9, 0] rfl) hE
set_option maxRecDepth 20000 in
theorem bX8_writeLeft_122 {p : Program} {l : Launch} {e : Env} {s : State} {m : MethodId} {args : Array Value} {below : List Frame} {meth : Method} {c : Code} {X : Ec} {h0 : Hp} {o : Hp} {k_18 : Hp → Nat → Nat → Int32 → Int32 → Nat → Int32 → Int32 → Int32 → Int32 → Int32 → Option (Hp)} {F : Nat} (C : Cx X p s m args meth c RX8 cX8_writeLeft 12 none "writeLeft") (hk_18 : ∀ (h : Hp) (x0 : Nat) (x1 : Nat) (x2 : Int32) (x3 : Int32) (x4 : Nat) (x5 : Int32) (x6 : Int32) (x7 : Int32) (x8 : Int32) (x9 : Int32) (H : Heap) (locs : List Loc), hK h x0 = 8 → hK h x1 = 17 → hK h x4 = 9 → Km h0 h → Wx X h H → va_S (aA (eB X)) s.heap H locs → ∀ (ls : Array Slot), lv_has ls 12 [(0, .ref x0), (1, .ref x1), (2, .int x2), (3, .int x3), (4, .ref x4), (5, .int x5), (6, .int x6), (7, .int x7), (8, .int x8), (9, .int x9)] → k_18 h x0 x1 x2 x3 x4 x5 x6 x7 x8 x9 = some o → W p l e (rm 2 41) s m args below meth c H locs 0 0 (MQ below (QV X h0 o) args s 0 0 (aA (eB X))) (F0 m 18 ls [])) {h : Hp} {x0 : Nat} {x1 : Nat} {x2 : Int32} {x3 : Int32} {x4 : Nat} {x5 : Int32} {x6 : Int32} {x7 : Int32} {x9 : Int32} {t0 : Int32} {H : Heap} {locs : List Loc} (k_x0 : hK h x0 = 8) (k_x1 : hK h x1 = 17) (k_x4 : hK h x4 = 9) (hkm : Km h0 h) (hW : Wx X h H) (hZ : va_S (aA (eB X)) s.heap H locs) (ls : Array Slot) (hl : lv_has ls 12 [(0, .ref x0), (1, .ref x1), (2, .int x2), (3, .int x3), (4, .ref x4), (5, .int x5), (6, .int x6), (7, .int x7), (9, .int x9)]) (hE : sX8_writeLeft_122 F k_18 h x0 x1 x2 x3 x4 x5 x6 x7 x9 t0 = some o) : W p l e (rm 2 41) s m args below meth c H locs 0 0 (MQ below (QV X h0 o) args s 0 0 (aA (eB X))) (F0 m 122 ls [.int t0]) := by
  refine lv_istore (lv' := [(8, .int t0), (0, .ref x0), (1, .ref x1), (2, .int x2), (3, .int x3), (4, .ref x4), (5, .int x5), (6, .int x6), (7, .int x7), (9, .int x9)]) C.1 C.2.1 dX8_writeLeft_122 hl (by decide) rfl (fun ls hl => ?_)
  exact bX8_writeLeft_124 C hk_18 k_x0 k_x1 k_x4 hkm hW hZ _ (lv_sub hl [1, 2, 3, 4, 5, 6, 7, 8, 0, 9] rfl) hE
set_option maxRecDepth 20000 in
theorem bX8_writeLeft_117 {p : Program} {l : Launch} {e : Env} {s : State} {m : MethodId} {args : Array Value} {below : List Frame} {meth : Method} {c : Code} {X : Ec} {h0 : Hp} {o : Hp} {k_18 : Hp → Nat → Nat → Int32 → Int32 → Nat → Int32 → Int32 → Int32 → Int32 → Int32 → Option (Hp)} {F : Nat} (C : Cx X p s m args meth c RX8 cX8_writeLeft 12 none "writeLeft") (hk_18 : ∀ (h : Hp) (x0 : Nat) (x1 : Nat) (x2 : Int32) (x3 : Int32) (x4 : Nat) (x5 : Int32) (x6 : Int32) (x7 : Int32) (x8 : Int32) (x9 : Int32) (H : Heap) (locs : List Loc), hK h x0 = 8 → hK h x1 = 17 → hK h x4 = 9 → Km h0 h → Wx X h H → va_S (aA (eB X)) s.heap H locs → ∀ (ls : Array Slot), lv_has ls 12 [(0, .ref x0), (1, .ref x1), (2, .int x2), (3, .int x3), (4, .ref x4), (5, .int x5), (6, .int x6), (7, .int x7), (8, .int x8), (9, .int x9)] → k_18 h x0 x1 x2 x3 x4 x5 x6 x7 x8 x9 = some o → W p l e (rm 2 41) s m args below meth c H locs 0 0 (MQ below (QV X h0 o) args s 0 0 (aA (eB X))) (F0 m 18 ls [])) {h : Hp} {x0 : Nat} {x1 : Nat} {x2 : Int32} {x3 : Int32} {x4 : Nat} {x5 : Int32} {x6 : Int32} {x7 : Int32} {x9 : Int32} {H : Heap} {locs : List Loc} (k_x0 : hK h x0 = 8) (k_x1 : hK h x1 = 17) (k_x4 : hK h x4 = 9) (hkm : Km h0 h) (hW : Wx X h H) (hZ : va_S (aA (eB X)) s.heap H locs) (ls : Array Slot) (hl : lv_has ls 12 [(0, .ref x0), (1, .ref x1), (2, .int x2), (3, .int x3), (4, .ref x4), (5, .int x5), (6, .int x6), (7, .int x7), (9, .int x9)]) (hE : sX8_writeLeft_117 F k_18 h x0 x1 x2 x3 x4 x5 x6 x7 x9 = some o) : W p l e (rm 2 41) s m args below meth c H locs 0 0 (MQ below (QV X h0 o) args s 0 0 (aA (eB X))) (F0 m 117 ls []) := by
  refine lv_iconst (v := (1 : Int32)) C.1 C.2.1 dX8_writeLeft_117 (by decide) ?_
  refine lv_goto (tgt := 122) C.1 C.2.1 dX8_writeLeft_118 (by decide) ?_
  exact bX8_writeLeft_122 C hk_18 k_x0 k_x1 k_x4 hkm hW hZ _ (lv_sub hl [0, 1, 2, 3, 4, 5, 6, 7, 8] rfl) hE
set_option maxRecDepth 20000 in
theorem bX8_writeLeft_87 {p : Program} {l : Launch} {e : Env} {s : State} {m : MethodId} {args : Array Value} {below : List Frame} {meth : Method} {c : Code} {X : Ec} {h0 : Hp} {o : Hp} {k_18 : Hp → Nat → Nat → Int32 → Int32 → Nat → Int32 → Int32 → Int32 → Int32 → Int32 → Option (Hp)} {F : Nat} (C : Cx X p s m args meth c RX8 cX8_writeLeft 12 none "writeLeft") (hk_18 : ∀ (h : Hp) (x0 : Nat) (x1 : Nat) (x2 : Int32) (x3 : Int32) (x4 : Nat) (x5 : Int32) (x6 : Int32) (x7 : Int32) (x8 : Int32) (x9 : Int32) (H : Heap) (locs : List Loc), hK h x0 = 8 → hK h x1 = 17 → hK h x4 = 9 → Km h0 h → Wx X h H → va_S (aA (eB X)) s.heap H locs → ∀ (ls : Array Slot), lv_has ls 12 [(0, .ref x0), (1, .ref x1), (2, .int x2), (3, .int x3), (4, .ref x4), (5, .int x5), (6, .int x6), (7, .int x7), (8, .int x8), (9, .int x9)] → k_18 h x0 x1 x2 x3 x4 x5 x6 x7 x8 x9 = some o → W p l e (rm 2 41) s m args below meth c H locs 0 0 (MQ below (QV X h0 o) args s 0 0 (aA (eB X))) (F0 m 18 ls [])) {h : Hp} {x0 : Nat} {x1 : Nat} {x2 : Int32} {x3 : Int32} {x4 : Nat} {x5 : Int32} {x6 : Int32} {x8 : Int32} {x9 : Int32} {x10 : Int32} {t0 : Int32} {H : Heap} {locs : List Loc} (k_x0 : hK h x0 = 8) (k_x1 : hK h x1 = 17) (k_x4 : hK h x4 = 9) (hkm : Km h0 h) (hW : Wx X h H) (hZ : va_S (aA (eB X)) s.heap H locs) (ls : Array Slot) (hl : lv_has ls 12 [(0, .ref x0), (1, .ref x1), (2, .int x2), (3, .int x3), (4, .ref x4), (5, .int x5), (6, .int x6), (8, .int x8), (9, .int x9), (10, .int x10)]) (hE : sX8_writeLeft_87 F k_18 h x0 x1 x2 x3 x4 x5 x6 x8 x9 x10 t0 = some o) : W p l e (rm 2 41) s m args below meth c H locs 0 0 (MQ below (QV X h0 o) args s 0 0 (aA (eB X))) (F0 m 87 ls [.int t0]) := by
  refine lv_istore (lv' := [(7, .int t0), (0, .ref x0), (1, .ref x1), (2, .int x2), (3, .int x3), (4, .ref x4), (5, .int x5), (6, .int x6), (8, .int x8), (9, .int x9), (10, .int x10)]) C.1 C.2.1 dX8_writeLeft_87 hl (by decide) rfl (fun ls hl => ?_)
  refine lv_iload C.1 C.2.1 dX8_writeLeft_89 (lv_at hl 8 rfl) ?_
  refine lv_if_ne (tgt := 117) C.1 C.2.1 dX8_writeLeft_91 (by decide) (fun c_1 => ?_) (fun c_1 => ?_)
  · have hE := br_n hE c_1
    exact bX8_writeLeft_117 C hk_18 k_x0 k_x1 k_x4 hkm hW hZ _ (lv_sub hl [1, 2, 3, 4, 5, 6, 7, 0, 9] rfl) hE
  · have hE := br_p hE c_1
    refine lv_aload_n C.1 C.2.1 dX8_writeLeft_94 rfl (lv_at hl 1 rfl) ?_
    obtain ⟨r_2, er_2, hE⟩ := cl_e hE
    refine gf_X8_27 C hW k_x0 er_2 dX8_writeLeft_95 (fun k_r_2 => ?_)
    obtain ⟨r_3, er_3, hE⟩ := cl_e hE
    refine gf_X8_94 C hW k_r_2 er_3 dX8_writeLeft_98 (fun k_r_3 => ?_)
    refine lv_iload C.1 C.2.1 dX8_writeLeft_101 (lv_at hl 10 rfl) ?_
    obtain ⟨g_4, hE⟩ := gd_e hE
    refine y_iald C hW k_r_3 g_4 dX8_writeLeft_103 ?_
    refine lv_aload_n C.1 C.2.1 dX8_writeLeft_104 rfl (lv_at hl 1 rfl) ?_
    obtain ⟨r_5, er_5, hE⟩ := cl_e hE
    refine gf_X8_27 C hW k_x0 er_5 dX8_writeLeft_105 (fun k_r_5 => ?_)
    obtain ⟨r_6, er_6, hE⟩ := cl_e hE
    refine gf_X8_94 C hW k_r_5 er_6 dX8_writeLeft_108 (fun k_r_6 => ?_)
    refine lv_iload C.1 C.2.1 dX8_writeLeft_111 (lv_at hl 6 rfl) ?_
    obtain ⟨g_7, hE⟩ := gd_e hE
    refine y_iald C hW k_r_6 g_7 dX8_writeLeft_113 ?_
    refine lv_icmp_ne (tgt := 121) C.1 C.2.1 dX8_writeLeft_114 (by decide) (fun c_8 => ?_) (fun c_8 => ?_)
    · have hE := br_n hE c_8
      refine lv_iconst (v := (0 : Int32)) C.1 C.2.1 dX8_writeLeft_121 (by decide) ?_
      exact bX8_writeLeft_122 C hk_18 k_x0 k_x1 k_x4 hkm hW hZ _ (lv_sub hl [1, 2, 3, 4, 5, 6, 7, 0, 9] rfl) hE
    · have hE := br_p hE c_8
      exact bX8_writeLeft_117 C hk_18 k_x0 k_x1 k_x4 hkm hW hZ _ (lv_sub hl [1, 2, 3, 4, 5, 6, 7, 0, 9] rfl) hE
set_option maxRecDepth 20000 in
theorem bX8_writeLeft_82 {p : Program} {l : Launch} {e : Env} {s : State} {m : MethodId} {args : Array Value} {below : List Frame} {meth : Method} {c : Code} {X : Ec} {h0 : Hp} {o : Hp} {k_18 : Hp → Nat → Nat → Int32 → Int32 → Nat → Int32 → Int32 → Int32 → Int32 → Int32 → Option (Hp)} {F : Nat} (C : Cx X p s m args meth c RX8 cX8_writeLeft 12 none "writeLeft") (hk_18 : ∀ (h : Hp) (x0 : Nat) (x1 : Nat) (x2 : Int32) (x3 : Int32) (x4 : Nat) (x5 : Int32) (x6 : Int32) (x7 : Int32) (x8 : Int32) (x9 : Int32) (H : Heap) (locs : List Loc), hK h x0 = 8 → hK h x1 = 17 → hK h x4 = 9 → Km h0 h → Wx X h H → va_S (aA (eB X)) s.heap H locs → ∀ (ls : Array Slot), lv_has ls 12 [(0, .ref x0), (1, .ref x1), (2, .int x2), (3, .int x3), (4, .ref x4), (5, .int x5), (6, .int x6), (7, .int x7), (8, .int x8), (9, .int x9)] → k_18 h x0 x1 x2 x3 x4 x5 x6 x7 x8 x9 = some o → W p l e (rm 2 41) s m args below meth c H locs 0 0 (MQ below (QV X h0 o) args s 0 0 (aA (eB X))) (F0 m 18 ls [])) {h : Hp} {x0 : Nat} {x1 : Nat} {x2 : Int32} {x3 : Int32} {x4 : Nat} {x5 : Int32} {x6 : Int32} {x8 : Int32} {x9 : Int32} {x10 : Int32} {H : Heap} {locs : List Loc} (k_x0 : hK h x0 = 8) (k_x1 : hK h x1 = 17) (k_x4 : hK h x4 = 9) (hkm : Km h0 h) (hW : Wx X h H) (hZ : va_S (aA (eB X)) s.heap H locs) (ls : Array Slot) (hl : lv_has ls 12 [(0, .ref x0), (1, .ref x1), (2, .int x2), (3, .int x3), (4, .ref x4), (5, .int x5), (6, .int x6), (8, .int x8), (9, .int x9), (10, .int x10)]) (hE : sX8_writeLeft_82 F k_18 h x0 x1 x2 x3 x4 x5 x6 x8 x9 x10 = some o) : W p l e (rm 2 41) s m args below meth c H locs 0 0 (MQ below (QV X h0 o) args s 0 0 (aA (eB X))) (F0 m 82 ls []) := by
  refine lv_iconst (v := (1 : Int32)) C.1 C.2.1 dX8_writeLeft_82 (by decide) ?_
  refine lv_goto (tgt := 87) C.1 C.2.1 dX8_writeLeft_83 (by decide) ?_
  exact bX8_writeLeft_87 C hk_18 k_x0 k_x1 k_x4 hkm hW hZ _ (lv_sub hl [0, 1, 2, 3, 4, 5, 6, 7, 8, 9] rfl) hE
set_option maxRecDepth 20000 in
theorem bX8_writeLeft_18 {p : Program} {l : Launch} {e : Env} {s : State} {m : MethodId} {args : Array Value} {below : List Frame} {meth : Method} {c : Code} {X : Ec} {h0 : Hp} {o : Hp} {F : Nat} (C : Cx X p s m args meth c RX8 cX8_writeLeft 12 none "writeLeft") : ∀ (f : Nat) {h : Hp} {x0 : Nat} {x1 : Nat} {x2 : Int32} {x3 : Int32} {x4 : Nat} {x5 : Int32} {x6 : Int32} {x7 : Int32} {x8 : Int32} {x9 : Int32} {H : Heap} {locs : List Loc} (k_x0 : hK h x0 = 8) (k_x1 : hK h x1 = 17) (k_x4 : hK h x4 = 9), Km h0 h → Wx X h H → va_S (aA (eB X)) s.heap H locs → ∀ (ls : Array Slot), lv_has ls 12 [(0, .ref x0), (1, .ref x1), (2, .int x2), (3, .int x3), (4, .ref x4), (5, .int x5), (6, .int x6), (7, .int x7), (8, .int x8), (9, .int x9)] → sX8_writeLeft_18 F f h x0 x1 x2 x3 x4 x5 x6 x7 x8 x9 = some o → W p l e (rm 2 41) s m args below meth c H locs 0 0 (MQ below (QV X h0 o) args s 0 0 (aA (eB X))) (F0 m 18 ls []) := by
  intro f
  induction f with
  | zero =>
    intro h x0 x1 x2 x3 x4 x5 x6 x7 x8 x9 H locs k_x0 k_x1 k_x4 hkm hW hZ ls hl hE
    rw [sX8_writeLeft_18] at hE
    cases hE
  | succ f ih =>
    intro h x0 x1 x2 x3 x4 x5 x6 x7 x8 x9 H locs k_x0 k_x1 k_x4 hkm hW hZ ls hl hE
    rw [sX8_writeLeft_18] at hE
    have hk_18 : ∀ (h : Hp) (x0 : Nat) (x1 : Nat) (x2 : Int32) (x3 : Int32) (x4 : Nat) (x5 : Int32) (x6 : Int32) (x7 : Int32) (x8 : Int32) (x9 : Int32) (H : Heap) (locs : List Loc), hK h x0 = 8 → hK h x1 = 17 → hK h x4 = 9 → Km h0 h → Wx X h H → va_S (aA (eB X)) s.heap H locs → ∀ (ls : Array Slot), lv_has ls 12 [(0, .ref x0), (1, .ref x1), (2, .int x2), (3, .int x3), (4, .ref x4), (5, .int x5), (6, .int x6), (7, .int x7), (8, .int x8), (9, .int x9)] → sX8_writeLeft_18 F f h x0 x1 x2 x3 x4 x5 x6 x7 x8 x9 = some o → W p l e (rm 2 41) s m args below meth c H locs 0 0 (MQ below (QV X h0 o) args s 0 0 (aA (eB X))) (F0 m 18 ls []) := fun h x0 x1 x2 x3 x4 x5 x6 x7 x8 x9 H locs k_x0 k_x1 k_x4 a b c ls hl hE => ih k_x0 k_x1 k_x4 a b c ls hl hE
    refine lv_iload C.1 C.2.1 dX8_writeLeft_18 (lv_at hl 9 rfl) ?_
    refine lv_iload_n C.1 C.2.1 dX8_writeLeft_20 rfl (lv_at hl 2 rfl) ?_
    refine lv_icmp_ge (tgt := 130) C.1 C.2.1 dX8_writeLeft_21 (by decide) (fun c_1 => ?_) (fun c_1 => ?_)
    · have hE := br_p hE c_1
      refine lv_iload_n C.1 C.2.1 dX8_writeLeft_130 rfl (lv_at hl 3 rfl) ?_
      obtain ⟨o_2, eo_2, hE⟩ := cl_e hE
      refine x_kI (o := o_2) (z_runS (As := [.int x3]) (rest := []) C (ct_X5_manOf l X eo_2) cw_X8_55 hW hZ rfl hl.1 (Nat.le_of_ble_eq_true rfl) rfl dX8_writeLeft_131 ⟨Nat.le_of_ble_eq_true rfl, Nat.le_of_ble_eq_true rfl⟩ ⟨Nat.le_refl _, Nat.le_refl _⟩) hZ (fun _ _ hW km hZ => ?_)
      replace hkm := hkm.tr km
      replace k_x0 := km.at k_x0 (by decide)
      replace k_x1 := km.at k_x1 (by decide)
      replace k_x4 := km.at k_x4 (by decide)
      refine lv_aload_n C.1 C.2.1 dX8_writeLeft_134 rfl (lv_at hl 0 rfl) ?_
      obtain ⟨r_3, er_3, hE⟩ := cl_e hE
      refine gf_X8_27 C hW k_x0 er_3 dX8_writeLeft_135 (fun k_r_3 => ?_)
      refine gf_X8_66 C hW k_r_3 dX8_writeLeft_138 ?_
      refine lv_icmp_ne (tgt := 156) C.1 C.2.1 dX8_writeLeft_141 (by decide) (fun c_4 => ?_) (fun c_4 => ?_)
      · have hE := br_n hE c_4
        exact bX8_writeLeft_156 C k_x0 k_x4 hkm hW hZ _ (lv_sub hl [0, 4, 5, 6, 7, 8] rfl) hE
      · have hE := br_p hE c_4
        refine lv_iload_n C.1 C.2.1 dX8_writeLeft_144 rfl (lv_at hl 3 rfl) ?_
        obtain ⟨o_5, eo_5, hE⟩ := cl_e hE
        refine x_kI (o := o_5) (z_runS (As := [.int x3]) (rest := []) C (ct_X5_takenBy l X eo_5) cw_X8_74 hW hZ rfl hl.1 (Nat.le_of_ble_eq_true rfl) rfl dX8_writeLeft_145 ⟨Nat.le_of_ble_eq_true rfl, Nat.le_of_ble_eq_true rfl⟩ ⟨Nat.le_refl _, Nat.le_refl _⟩) hZ (fun _ _ hW km hZ => ?_)
        replace hkm := hkm.tr km
        replace k_x0 := km.at k_x0 (by decide)
        replace k_x1 := km.at k_x1 (by decide)
        replace k_x4 := km.at k_x4 (by decide)
        refine lv_iconst (v := (-1 : Int32)) C.1 C.2.1 dX8_writeLeft_148 (by decide) ?_
        refine lv_icmp_eq (tgt := 156) C.1 C.2.1 dX8_writeLeft_149 (by decide) (fun c_6 => ?_) (fun c_6 => ?_)
        · have hE := br_p hE c_6
          exact bX8_writeLeft_156 C k_x0 k_x4 hkm hW hZ _ (lv_sub hl [0, 4, 5, 6, 7, 8] rfl) hE
        · have hE := br_n hE c_6
          refine lv_iconst (v := (1 : Int32)) C.1 C.2.1 dX8_writeLeft_152 (by decide) ?_
          refine lv_goto (tgt := 157) C.1 C.2.1 dX8_writeLeft_153 (by decide) ?_
          exact bX8_writeLeft_157 C k_x0 k_x4 hkm hW hZ _ (lv_sub hl [0, 4, 5, 6, 7, 8] rfl) hE
    · have hE := br_n hE c_1
      refine lv_aload_n C.1 C.2.1 dX8_writeLeft_24 rfl (lv_at hl 1 rfl) ?_
      refine lv_iload C.1 C.2.1 dX8_writeLeft_25 (lv_at hl 9 rfl) ?_
      obtain ⟨g_7, hE⟩ := gd_e hE
      refine y_iald C hW k_x1 g_7 dX8_writeLeft_27 ?_
      obtain ⟨o_8, eo_8, hE⟩ := cl_e hE
      refine x_kI (o := o_8) (z_runS (As := [.int (hI h x1 x9.toNatClampNeg)]) (rest := []) C (ct_X5_leftBy l X eo_8) cw_X8_44 hW hZ rfl hl.1 (Nat.le_of_ble_eq_true rfl) rfl dX8_writeLeft_28 ⟨Nat.le_of_ble_eq_true rfl, Nat.le_of_ble_eq_true rfl⟩ ⟨Nat.le_refl _, Nat.le_refl _⟩) hZ (fun _ _ hW km hZ => ?_)
      replace hkm := hkm.tr km
      replace k_x0 := km.at k_x0 (by decide)
      replace k_x1 := km.at k_x1 (by decide)
      replace k_x4 := km.at k_x4 (by decide)
      refine lv_istore (lv' := [(10, .int o_8.1), (0, .ref x0), (1, .ref x1), (2, .int x2), (3, .int x3), (4, .ref x4), (5, .int x5), (6, .int x6), (7, .int x7), (8, .int x8), (9, .int x9)]) C.1 C.2.1 dX8_writeLeft_31 hl (by decide) rfl (fun ls hl => ?_)
      refine lv_iload C.1 C.2.1 dX8_writeLeft_33 (lv_at hl 0 rfl) ?_
      refine lv_iload C.1 C.2.1 dX8_writeLeft_35 (lv_at hl 6 rfl) ?_
      refine lv_icmp_eq (tgt := 124) C.1 C.2.1 dX8_writeLeft_37 (by decide) (fun c_9 => ?_) (fun c_9 => ?_)
      · have hE := br_p hE c_9
        exact bX8_writeLeft_124 C hk_18 k_x0 k_x1 k_x4 hkm hW hZ _ (lv_sub hl [1, 2, 3, 4, 5, 6, 7, 8, 9, 10] rfl) hE
      · have hE := br_n hE c_9
        refine lv_aload_n C.1 C.2.1 dX8_writeLeft_40 rfl (lv_at hl 2 rfl) ?_
        refine lv_iload C.1 C.2.1 dX8_writeLeft_41 (lv_at hl 10 rfl) ?_
        obtain ⟨g_10, hE⟩ := gd_e hE
        refine y_iald C hW k_x1 g_10 dX8_writeLeft_43 ?_
        refine lv_iload_n C.1 C.2.1 dX8_writeLeft_44 rfl (lv_at hl 4 rfl) ?_
        obtain ⟨o_11, eo_11, hE⟩ := cl_e hE
        refine x_kI (o := o_11) (z_runS (As := [.int (hI o_8.2 x1 x9.toNatClampNeg), .int x3]) (rest := []) C (ct_X8_isRival l X eo_11) cw_X8_86 hW hZ rfl hl.1 (Nat.le_of_ble_eq_true rfl) rfl dX8_writeLeft_45 ⟨Nat.le_of_ble_eq_true rfl, Nat.le_of_ble_eq_true rfl⟩ ⟨Nat.le_refl _, Nat.le_refl _⟩) hZ (fun _ _ hW km hZ => ?_)
        replace hkm := hkm.tr km
        replace k_x0 := km.at k_x0 (by decide)
        replace k_x1 := km.at k_x1 (by decide)
        replace k_x4 := km.at k_x4 (by decide)
        refine lv_if_eq (tgt := 124) C.1 C.2.1 dX8_writeLeft_48 (by decide) (fun c_12 => ?_) (fun c_12 => ?_)
        · have hE := br_p hE c_12
          exact bX8_writeLeft_124 C hk_18 k_x0 k_x1 k_x4 hkm hW hZ _ (lv_sub hl [1, 2, 3, 4, 5, 6, 7, 8, 9, 10] rfl) hE
        · have hE := br_n hE c_12
          refine lv_iconst (v := (1 : Int32)) C.1 C.2.1 dX8_writeLeft_51 (by decide) ?_
          refine lv_istore (lv' := [(6, .int (1 : Int32)), (10, .int o_8.1), (0, .ref x0), (1, .ref x1), (2, .int x2), (3, .int x3), (4, .ref x4), (5, .int x5), (7, .int x7), (8, .int x8), (9, .int x9)]) C.1 C.2.1 dX8_writeLeft_52 hl (by decide) rfl (fun ls hl => ?_)
          refine lv_iload C.1 C.2.1 dX8_writeLeft_54 (lv_at hl 8 rfl) ?_
          refine lv_if_ne (tgt := 82) C.1 C.2.1 dX8_writeLeft_56 (by decide) (fun c_13 => ?_) (fun c_13 => ?_)
          · have hE := br_n hE c_13
            exact bX8_writeLeft_82 C hk_18 k_x0 k_x1 k_x4 hkm hW hZ _ (lv_sub hl [2, 3, 4, 5, 6, 7, 0, 9, 10, 1] rfl) hE
          · have hE := br_p hE c_13
            refine lv_aload_n C.1 C.2.1 dX8_writeLeft_59 rfl (lv_at hl 2 rfl) ?_
            obtain ⟨r_14, er_14, hE⟩ := cl_e hE
            refine gf_X8_27 C hW k_x0 er_14 dX8_writeLeft_60 (fun k_r_14 => ?_)
            obtain ⟨r_15, er_15, hE⟩ := cl_e hE
            refine gf_X8_90 C hW k_r_14 er_15 dX8_writeLeft_63 (fun k_r_15 => ?_)
            refine lv_iload C.1 C.2.1 dX8_writeLeft_66 (lv_at hl 1 rfl) ?_
            obtain ⟨g_16, hE⟩ := gd_e hE
            refine y_iald C hW k_r_15 g_16 dX8_writeLeft_68 ?_
            refine lv_aload_n C.1 C.2.1 dX8_writeLeft_69 rfl (lv_at hl 2 rfl) ?_
            obtain ⟨r_17, er_17, hE⟩ := cl_e hE
            refine gf_X8_27 C hW k_x0 er_17 dX8_writeLeft_70 (fun k_r_17 => ?_)
            obtain ⟨r_18, er_18, hE⟩ := cl_e hE
            refine gf_X8_90 C hW k_r_17 er_18 dX8_writeLeft_73 (fun k_r_18 => ?_)
            refine lv_iload C.1 C.2.1 dX8_writeLeft_76 (lv_at hl 7 rfl) ?_
            obtain ⟨g_19, hE⟩ := gd_e hE
            refine y_iald C hW k_r_18 g_19 dX8_writeLeft_78 ?_
            refine lv_icmp_ne (tgt := 86) C.1 C.2.1 dX8_writeLeft_79 (by decide) (fun c_20 => ?_) (fun c_20 => ?_)
            · have hE := br_n hE c_20
              refine lv_iconst (v := (0 : Int32)) C.1 C.2.1 dX8_writeLeft_86 (by decide) ?_
              exact bX8_writeLeft_87 C hk_18 k_x0 k_x1 k_x4 hkm hW hZ _ (lv_sub hl [2, 3, 4, 5, 6, 7, 0, 9, 10, 1] rfl) hE
            · have hE := br_p hE c_20
              exact bX8_writeLeft_82 C hk_18 k_x0 k_x1 k_x4 hkm hW hZ _ (lv_sub hl [2, 3, 4, 5, 6, 7, 0, 9, 10, 1] rfl) hE
set_option maxRecDepth 20000 in
theorem ct_X8_writeLeft (l : Launch) (X : Ec) (F : Nat) {h : Hp} {x0 : Nat} {x1 : Nat} {x2 : Int32} {x3 : Int32} {x4 : Nat} {o : Hp} (k_x0 : hK h x0 = 8) (k_x1 : hK h x1 = 17) (k_x4 : hK h x4 = 9) (hE : sX8_writeLeft F h x0 x1 x2 x3 x4 = some o) : MetV l yX8_writeLeft cX8_writeLeft 12 none 2 41 X [.ref x0, .ref x1, .int x2, .int x3, .ref x4] h o := by
  refine x_met (by decide) (Nat.le_of_ble_eq_true rfl) ?_
  intro p e s m below meth c ls C hl hW hZ
  have hl : lv_has ls 12 [(0, .ref x0), (1, .ref x1), (2, .int x2), (3, .int x3), (4, .ref x4)] := hl
  have hkm : Km h h := Km.rf h
  refine lv_iload_n C.1 C.2.1 dX8_writeLeft_0 rfl (lv_at hl 3 rfl) ?_
  obtain ⟨o_1, eo_1, hE⟩ := cl_e hE
  refine x_kI (o := o_1) (z_runS (As := [.int x3]) (rest := []) C (ct_X5_leftBy l X eo_1) cw_X8_44 hW hZ rfl hl.1 (Nat.le_of_ble_eq_true rfl) rfl dX8_writeLeft_1 ⟨Nat.le_of_ble_eq_true rfl, Nat.le_of_ble_eq_true rfl⟩ ⟨Nat.le_refl _, Nat.le_refl _⟩) hZ (fun _ _ hW km hZ => ?_)
  replace hkm := hkm.tr km
  replace k_x0 := km.at k_x0 (by decide)
  replace k_x1 := km.at k_x1 (by decide)
  replace k_x4 := km.at k_x4 (by decide)
  refine lv_istore (lv' := [(5, .int o_1.1), (0, .ref x0), (1, .ref x1), (2, .int x2), (3, .int x3), (4, .ref x4)]) C.1 C.2.1 dX8_writeLeft_4 hl (by decide) rfl (fun ls hl => ?_)
  refine lv_iconst (v := (0 : Int32)) C.1 C.2.1 dX8_writeLeft_6 (by decide) ?_
  refine lv_istore (lv' := [(6, .int (0 : Int32)), (5, .int o_1.1), (0, .ref x0), (1, .ref x1), (2, .int x2), (3, .int x3), (4, .ref x4)]) C.1 C.2.1 dX8_writeLeft_7 hl (by decide) rfl (fun ls hl => ?_)
  refine lv_iconst (v := (0 : Int32)) C.1 C.2.1 dX8_writeLeft_9 (by decide) ?_
  refine lv_istore (lv' := [(7, .int (0 : Int32)), (6, .int (0 : Int32)), (5, .int o_1.1), (0, .ref x0), (1, .ref x1), (2, .int x2), (3, .int x3), (4, .ref x4)]) C.1 C.2.1 dX8_writeLeft_10 hl (by decide) rfl (fun ls hl => ?_)
  refine lv_iconst (v := (0 : Int32)) C.1 C.2.1 dX8_writeLeft_12 (by decide) ?_
  refine lv_istore (lv' := [(8, .int (0 : Int32)), (7, .int (0 : Int32)), (6, .int (0 : Int32)), (5, .int o_1.1), (0, .ref x0), (1, .ref x1), (2, .int x2), (3, .int x3), (4, .ref x4)]) C.1 C.2.1 dX8_writeLeft_13 hl (by decide) rfl (fun ls hl => ?_)
  refine lv_iconst (v := (0 : Int32)) C.1 C.2.1 dX8_writeLeft_15 (by decide) ?_
  refine lv_istore (lv' := [(9, .int (0 : Int32)), (8, .int (0 : Int32)), (7, .int (0 : Int32)), (6, .int (0 : Int32)), (5, .int o_1.1), (0, .ref x0), (1, .ref x1), (2, .int x2), (3, .int x3), (4, .ref x4)]) C.1 C.2.1 dX8_writeLeft_16 hl (by decide) rfl (fun ls hl => ?_)
  exact bX8_writeLeft_18 C F k_x0 k_x1 k_x4 hkm hW hZ _ (lv_sub hl [5, 6, 7, 8, 9, 4, 3, 2, 1, 0] rfl) hE
theorem ms_77 : Cond.selects RX8 yX8_writeLeft yX8_writeLeft ∈ W0 := w0_in (List.mem_append_left _ (List.mem_of_getElem? (i := 77) (by decide +kernel))) rfl
theorem m_586 : Cond.instanceMethod yX9_appendAll ∈ W0 := w0_in (List.mem_append_right _ (List.mem_of_getElem? (i := 586) (by decide +kernel))) rfl
theorem m_587 : Cond.selects RX9 yX9_appendAll yX9_appendAll ∈ W0 := w0_in (List.mem_append_right _ (List.mem_of_getElem? (i := 587) (by decide +kernel))) rfl
theorem m_588 : Cond.code yX9_appendAll cX9_appendAll 3 none ∈ W0 := w0_in (List.mem_append_right _ (List.mem_of_getElem? (i := 588) (by decide +kernel))) rfl
theorem m_1436 : Cond.methodLink RX8 51 yX9_appendAll ∈ W0 := w0_in (List.mem_append_right _ (List.mem_of_getElem? (i := 1436) (by decide +kernel))) rfl
theorem m_1438 : Cond.methodLink RX8 58 yX1_letterOf ∈ W0 := w0_in (List.mem_append_right _ (List.mem_of_getElem? (i := 1438) (by decide +kernel))) rfl
theorem m_1440 : Cond.methodLink RX8 70 yX8_writeLeft ∈ W0 := w0_in (List.mem_append_right _ (List.mem_of_getElem? (i := 1440) (by decide +kernel))) rfl
theorem m_1442 : Cond.instanceMethod yX8_writeLeft ∈ W0 := w0_in (List.mem_append_right _ (List.mem_of_getElem? (i := 1442) (by decide +kernel))) rfl
theorem m_1443 : Cond.code yX8_writeLeft cX8_writeLeft 12 none ∈ W0 := w0_in (List.mem_append_right _ (List.mem_of_getElem? (i := 1443) (by decide +kernel))) rfl
theorem m_1448 : Cond.methodLink RX8 77 yX7_writeSquare ∈ W0 := w0_in (List.mem_append_right _ (List.mem_of_getElem? (i := 1448) (by decide +kernel))) rfl
theorem m_1449 : Cond.methodLink RX8 83 yX5_becomes ∈ W0 := w0_in (List.mem_append_right _ (List.mem_of_getElem? (i := 1449) (by decide +kernel))) rfl
theorem cw_X8_77 : cwd RX8 77 yX7_writeSquare cX7_writeSquare 3 none true 3 := ⟨m_1134, m_1448, m_10, m_1133, by decide, by decide, by decide +kernel⟩
theorem cw_X8_83 : cwd RX8 83 yX5_becomes cX5_becomes 2 (some .int) true 1 := ⟨m_1264, m_1449, m_7, m_1263, by decide, by decide, by decide +kernel⟩
theorem cw_X8_58 : cwd RX8 58 yX1_letterOf cX1_letterOf 3 (some .int) false 1 := ⟨m_1127, m_1438, m_4, ⟨m_1125, m_1126⟩, by decide, by decide, by decide +kernel⟩
theorem cw_X8_70 : cwd RX8 70 yX8_writeLeft cX8_writeLeft 12 none false 4 := ⟨m_1443, m_1440, m_11, ⟨m_1442, ms_77⟩, by decide, by decide, by decide +kernel⟩
theorem cw_X8_51 : cwd RX8 51 yX9_appendAll cX9_appendAll 3 none false 1 := ⟨m_588, m_1436, m_2, ⟨m_586, m_587⟩, by decide, by decide, by decide +kernel⟩
theorem dX8_writeMove_0 : decode cX8_writeMove 0 = .ok (.aload_n 1, 1) := by decide +kernel
theorem dX8_writeMove_1 : decode cX8_writeMove 1 = .ok (.iload_n 3, 1) := by decide +kernel
theorem dX8_writeMove_2 : decode cX8_writeMove 2 = .ok (.iaload, 1) := by decide +kernel
theorem dX8_writeMove_3 : decode cX8_writeMove 3 = .ok (.istore 5, 2) := by decide +kernel
theorem dX8_writeMove_5 : decode cX8_writeMove 5 = .ok (.iload 5, 2) := by decide +kernel
theorem dX8_writeMove_7 : decode cX8_writeMove 7 = .ok (.invokestatic 35, 3) := by decide +kernel
theorem dX8_writeMove_10 : decode cX8_writeMove 10 = .ok (.istore 6, 2) := by decide +kernel
theorem dX8_writeMove_12 : decode cX8_writeMove 12 = .ok (.iload 5, 2) := by decide +kernel
theorem dX8_writeMove_14 : decode cX8_writeMove 14 = .ok (.invokestatic 41, 3) := by decide +kernel
theorem dX8_writeMove_17 : decode cX8_writeMove 17 = .ok (.istore 7, 2) := by decide +kernel
theorem dX8_writeMove_19 : decode cX8_writeMove 19 = .ok (.iload 7, 2) := by decide +kernel
theorem dX8_writeMove_21 : decode cX8_writeMove 21 = .ok (.iconst 2, 1) := by decide +kernel
theorem dX8_writeMove_22 : decode cX8_writeMove 22 = .ok (.if_icmp .ne 26, 3) := by decide +kernel
theorem dX8_writeMove_25 : decode cX8_writeMove 25 = .ok (.aload 4, 2) := by decide +kernel
theorem dX8_writeMove_27 : decode cX8_writeMove 27 = .ok (.iload 6, 2) := by decide +kernel
theorem dX8_writeMove_29 : decode cX8_writeMove 29 = .ok (.iload 5, 2) := by decide +kernel
theorem dX8_writeMove_31 : decode cX8_writeMove 31 = .ok (.invokestatic 44, 3) := by decide +kernel
theorem dX8_writeMove_34 : decode cX8_writeMove 34 = .ok (.if_icmp .le 8, 3) := by decide +kernel
theorem dX8_writeMove_37 : decode cX8_writeMove 37 = .ok (.ldc 47, 2) := by decide +kernel
theorem dX8_writeMove_39 : decode cX8_writeMove 39 = .ok (.goto 5, 3) := by decide +kernel
theorem dX8_writeMove_42 : decode cX8_writeMove 42 = .ok (.ldc 49, 2) := by decide +kernel
theorem dX8_writeMove_44 : decode cX8_writeMove 44 = .ok (.invokevirtual 51, 3) := by decide +kernel
theorem dX8_writeMove_47 : decode cX8_writeMove 47 = .ok (.return_, 1) := by decide +kernel
theorem dX8_writeMove_48 : decode cX8_writeMove 48 = .ok (.iload 5, 2) := by decide +kernel
theorem dX8_writeMove_50 : decode cX8_writeMove 50 = .ok (.invokestatic 55, 3) := by decide +kernel
theorem dX8_writeMove_53 : decode cX8_writeMove 53 = .ok (.istore 8, 2) := by decide +kernel
theorem dX8_writeMove_55 : decode cX8_writeMove 55 = .ok (.iload 7, 2) := by decide +kernel
theorem dX8_writeMove_57 : decode cX8_writeMove 57 = .ok (.iconst 3, 1) := by decide +kernel
theorem dX8_writeMove_58 : decode cX8_writeMove 58 = .ok (.if_icmp .ne 29, 3) := by decide +kernel
theorem dX8_writeMove_61 : decode cX8_writeMove 61 = .ok (.aload 4, 2) := by decide +kernel
theorem dX8_writeMove_63 : decode cX8_writeMove 63 = .ok (.aload_n 0, 1) := by decide +kernel
theorem dX8_writeMove_64 : decode cX8_writeMove 64 = .ok (.getfield 27, 3) := by decide +kernel
theorem dX8_writeMove_67 : decode cX8_writeMove 67 = .ok (.iconst 2, 1) := by decide +kernel
theorem dX8_writeMove_68 : decode cX8_writeMove 68 = .ok (.iload 8, 2) := by decide +kernel
theorem dX8_writeMove_70 : decode cX8_writeMove 70 = .ok (.imul, 1) := by decide +kernel
theorem dX8_writeMove_71 : decode cX8_writeMove 71 = .ok (.invokevirtual 58, 3) := by decide +kernel
theorem dX8_writeMove_74 : decode cX8_writeMove 74 = .ok (.invokevirtual 63, 3) := by decide +kernel
theorem dX8_writeMove_77 : decode cX8_writeMove 77 = .ok (.aload 4, 2) := by decide +kernel
theorem dX8_writeMove_79 : decode cX8_writeMove 79 = .ok (.bipush 64, 2) := by decide +kernel
theorem dX8_writeMove_81 : decode cX8_writeMove 81 = .ok (.invokevirtual 63, 3) := by decide +kernel
theorem dX8_writeMove_84 : decode cX8_writeMove 84 = .ok (.goto 41, 3) := by decide +kernel
theorem dX8_writeMove_87 : decode cX8_writeMove 87 = .ok (.iload 8, 2) := by decide +kernel
theorem dX8_writeMove_89 : decode cX8_writeMove 89 = .ok (.aload_n 0, 1) := by decide +kernel
theorem dX8_writeMove_90 : decode cX8_writeMove 90 = .ok (.getfield 27, 3) := by decide +kernel
theorem dX8_writeMove_93 : decode cX8_writeMove 93 = .ok (.getfield 66, 3) := by decide +kernel
theorem dX8_writeMove_96 : decode cX8_writeMove 96 = .ok (.if_icmp .eq 19, 3) := by decide +kernel
theorem dX8_writeMove_99 : decode cX8_writeMove 99 = .ok (.aload 4, 2) := by decide +kernel
theorem dX8_writeMove_101 : decode cX8_writeMove 101 = .ok (.aload_n 0, 1) := by decide +kernel
theorem dX8_writeMove_102 : decode cX8_writeMove 102 = .ok (.getfield 27, 3) := by decide +kernel
theorem dX8_writeMove_105 : decode cX8_writeMove 105 = .ok (.iconst 2, 1) := by decide +kernel
theorem dX8_writeMove_106 : decode cX8_writeMove 106 = .ok (.iload 8, 2) := by decide +kernel
theorem dX8_writeMove_108 : decode cX8_writeMove 108 = .ok (.imul, 1) := by decide +kernel
theorem dX8_writeMove_109 : decode cX8_writeMove 109 = .ok (.invokevirtual 58, 3) := by decide +kernel
theorem dX8_writeMove_112 : decode cX8_writeMove 112 = .ok (.invokevirtual 63, 3) := by decide +kernel
theorem dX8_writeMove_115 : decode cX8_writeMove 115 = .ok (.aload_n 0, 1) := by decide +kernel
theorem dX8_writeMove_116 : decode cX8_writeMove 116 = .ok (.aload_n 1, 1) := by decide +kernel
theorem dX8_writeMove_117 : decode cX8_writeMove 117 = .ok (.iload_n 2, 1) := by decide +kernel
theorem dX8_writeMove_118 : decode cX8_writeMove 118 = .ok (.iload 5, 2) := by decide +kernel
theorem dX8_writeMove_120 : decode cX8_writeMove 120 = .ok (.aload 4, 2) := by decide +kernel
theorem dX8_writeMove_122 : decode cX8_writeMove 122 = .ok (.invokevirtual 70, 3) := by decide +kernel
theorem dX8_writeMove_125 : decode cX8_writeMove 125 = .ok (.iload 5, 2) := by decide +kernel
theorem dX8_writeMove_127 : decode cX8_writeMove 127 = .ok (.invokestatic 74, 3) := by decide +kernel
theorem dX8_writeMove_130 : decode cX8_writeMove 130 = .ok (.iconst (-1), 1) := by decide +kernel
theorem dX8_writeMove_131 : decode cX8_writeMove 131 = .ok (.if_icmp .eq 10, 3) := by decide +kernel
theorem dX8_writeMove_134 : decode cX8_writeMove 134 = .ok (.aload 4, 2) := by decide +kernel
theorem dX8_writeMove_136 : decode cX8_writeMove 136 = .ok (.bipush 120, 2) := by decide +kernel
theorem dX8_writeMove_138 : decode cX8_writeMove 138 = .ok (.invokevirtual 63, 3) := by decide +kernel
theorem dX8_writeMove_141 : decode cX8_writeMove 141 = .ok (.aload_n 0, 1) := by decide +kernel
theorem dX8_writeMove_142 : decode cX8_writeMove 142 = .ok (.getfield 27, 3) := by decide +kernel
theorem dX8_writeMove_145 : decode cX8_writeMove 145 = .ok (.iload 6, 2) := by decide +kernel
theorem dX8_writeMove_147 : decode cX8_writeMove 147 = .ok (.aload 4, 2) := by decide +kernel
theorem dX8_writeMove_149 : decode cX8_writeMove 149 = .ok (.invokestatic 77, 3) := by decide +kernel
theorem dX8_writeMove_152 : decode cX8_writeMove 152 = .ok (.iload 5, 2) := by decide +kernel
theorem dX8_writeMove_154 : decode cX8_writeMove 154 = .ok (.invokestatic 83, 3) := by decide +kernel
theorem dX8_writeMove_157 : decode cX8_writeMove 157 = .ok (.iconst (-1), 1) := by decide +kernel
theorem dX8_writeMove_158 : decode cX8_writeMove 158 = .ok (.if_icmp .eq 29, 3) := by decide +kernel
theorem dX8_writeMove_161 : decode cX8_writeMove 161 = .ok (.aload 4, 2) := by decide +kernel
theorem dX8_writeMove_163 : decode cX8_writeMove 163 = .ok (.bipush 61, 2) := by decide +kernel
theorem dX8_writeMove_165 : decode cX8_writeMove 165 = .ok (.invokevirtual 63, 3) := by decide +kernel
theorem dX8_writeMove_168 : decode cX8_writeMove 168 = .ok (.aload 4, 2) := by decide +kernel
theorem dX8_writeMove_170 : decode cX8_writeMove 170 = .ok (.aload_n 0, 1) := by decide +kernel
theorem dX8_writeMove_171 : decode cX8_writeMove 171 = .ok (.getfield 27, 3) := by decide +kernel
theorem dX8_writeMove_174 : decode cX8_writeMove 174 = .ok (.iconst 2, 1) := by decide +kernel
theorem dX8_writeMove_175 : decode cX8_writeMove 175 = .ok (.iload 5, 2) := by decide +kernel
theorem dX8_writeMove_177 : decode cX8_writeMove 177 = .ok (.invokestatic 83, 3) := by decide +kernel
theorem dX8_writeMove_180 : decode cX8_writeMove 180 = .ok (.imul, 1) := by decide +kernel
theorem dX8_writeMove_181 : decode cX8_writeMove 181 = .ok (.invokevirtual 58, 3) := by decide +kernel
theorem dX8_writeMove_184 : decode cX8_writeMove 184 = .ok (.invokevirtual 63, 3) := by decide +kernel
theorem dX8_writeMove_187 : decode cX8_writeMove 187 = .ok (.return_, 1) := by decide +kernel
def sX8_writeMove_187 (F : Nat) (h : Hp) : Option (Hp) := some h
def sX8_writeMove_141 (F : Nat) (h : Hp) (x0 : Nat) (x4 : Nat) (x5 : Int32) (x6 : Int32) : Option (Hp) := cl (hR h x0 0) fun r_1 => cl (sX7_writeSquare h r_1 x6 x4) fun o_2 => cl (sX5_becomes o_2 x5) fun o_3 => br (o_3.1 = (-1 : Int32)) (sX8_writeMove_187 F o_3.2 ) (cl (sX9_append o_3.2 x4 (61 : Int32)) fun o_5 => cl (hR o_5 x0 0) fun r_6 => cl (sX5_becomes o_5 x5) fun o_7 => cl (sX1_letterOf o_7.2 r_6 ((2 : Int32) * o_7.1)) fun o_8 => cl (sX9_append o_8.2 x4 o_8.1) fun o_9 => sX8_writeMove_187 F o_9 )
def sX8_writeMove_125 (F : Nat) (h : Hp) (x0 : Nat) (x4 : Nat) (x5 : Int32) (x6 : Int32) : Option (Hp) := cl (sX5_takenBy h x5) fun o_1 => br (o_1.1 = (-1 : Int32)) (sX8_writeMove_141 F o_1.2 x0 x4 x5 x6) (cl (sX9_append o_1.2 x4 (120 : Int32)) fun o_3 => sX8_writeMove_141 F o_3 x0 x4 x5 x6)
def sX8_writeMove_115 (F : Nat) (h : Hp) (x0 : Nat) (x1 : Nat) (x2 : Int32) (x4 : Nat) (x5 : Int32) (x6 : Int32) : Option (Hp) := cl (sX8_writeLeft F h x0 x1 x2 x5 x4) fun o_1 => sX8_writeMove_125 F o_1 x0 x4 x5 x6
def sX8_writeMove_44 (F : Nat) (h : Hp) (t0 : Nat) (t1 : Nat) : Option (Hp) := cl (sX9_appendAll F h t1 t0) fun o_1 => some o_1
def sX8_writeMove (F : Nat) (h : Hp) (x0 : Nat) (x1 : Nat) (x2 : Int32) (x3 : Int32) (x4 : Nat) : Option (Hp) := gd (inB x3 (hN h x1)) <| nm (hI h x1 x3.toNatClampNeg) fun v_2 => cl (sX5_comeTo h v_2) fun o_3 => cl (sX5_kindOf o_3.2 v_2) fun o_4 => br (o_4.1 = (2 : Int32)) (cl (sX5_leftBy o_4.2 v_2) fun o_17 => br (o_3.1 ≤ o_17.1) (sX8_writeMove_44 F o_17.2 27 x4) (sX8_writeMove_44 F o_17.2 26 x4)) (cl (sX5_manOf o_4.2 v_2) fun o_6 => br (o_4.1 = (3 : Int32)) (cl (hR o_6.2 x0 0) fun r_13 => cl (sX1_letterOf o_6.2 r_13 ((2 : Int32) * o_6.1)) fun o_14 => cl (sX9_append o_14.2 x4 o_14.1) fun o_15 => cl (sX9_append o_15 x4 (64 : Int32)) fun o_16 => sX8_writeMove_125 F o_16 x0 x4 v_2 o_3.1) (cl (hR o_6.2 x0 0) fun r_8 => br (o_6.1 = (hI o_6.2 r_8 5)) (sX8_writeMove_115 F o_6.2 x0 x1 x2 x4 v_2 o_3.1) (cl (hR o_6.2 x0 0) fun r_10 => cl (sX1_letterOf o_6.2 r_10 ((2 : Int32) * o_6.1)) fun o_11 => cl (sX9_append o_11.2 x4 o_11.1) fun o_12 => sX8_writeMove_115 F o_12 x0 x1 x2 x4 v_2 o_3.1)))
set_option maxRecDepth 20000 in
theorem bX8_writeMove_187 {p : Program} {l : Launch} {e : Env} {s : State} {m : MethodId} {args : Array Value} {below : List Frame} {meth : Method} {c : Code} {X : Ec} {h0 : Hp} {o : Hp} {F : Nat} (C : Cx X p s m args meth c RX8 cX8_writeMove 9 none "writeMove") {h : Hp} {H : Heap} {locs : List Loc} (hkm : Km h0 h) (hW : Wx X h H) (hZ : va_S (aA (eB X)) s.heap H locs) (ls : Array Slot) (hl : lv_has ls 9 []) (hE : sX8_writeMove_187 F h  = some o) : W p l e (rm 5 107) s m args below meth c H locs 0 0 (MQ below (QV X h0 o) args s 0 0 (aA (eB X))) (F0 m 187 ls []) := by
  exact x_vret C rfl hW hZ hkm hE dX8_writeMove_187
set_option maxRecDepth 20000 in
theorem bX8_writeMove_141 {p : Program} {l : Launch} {e : Env} {s : State} {m : MethodId} {args : Array Value} {below : List Frame} {meth : Method} {c : Code} {X : Ec} {h0 : Hp} {o : Hp} {F : Nat} (C : Cx X p s m args meth c RX8 cX8_writeMove 9 none "writeMove") {h : Hp} {x0 : Nat} {x4 : Nat} {x5 : Int32} {x6 : Int32} {H : Heap} {locs : List Loc} (k_x0 : hK h x0 = 8) (k_x4 : hK h x4 = 9) (hkm : Km h0 h) (hW : Wx X h H) (hZ : va_S (aA (eB X)) s.heap H locs) (ls : Array Slot) (hl : lv_has ls 9 [(0, .ref x0), (4, .ref x4), (5, .int x5), (6, .int x6)]) (hE : sX8_writeMove_141 F h x0 x4 x5 x6 = some o) : W p l e (rm 5 107) s m args below meth c H locs 0 0 (MQ below (QV X h0 o) args s 0 0 (aA (eB X))) (F0 m 141 ls []) := by
  refine lv_aload_n C.1 C.2.1 dX8_writeMove_141 rfl (lv_at hl 0 rfl) ?_
  obtain ⟨r_1, er_1, hE⟩ := cl_e hE
  refine gf_X8_27 C hW k_x0 er_1 dX8_writeMove_142 (fun k_r_1 => ?_)
  refine lv_iload C.1 C.2.1 dX8_writeMove_145 (lv_at hl 3 rfl) ?_
  refine lv_aload C.1 C.2.1 dX8_writeMove_147 (lv_at hl 1 rfl) ?_
  obtain ⟨o_2, eo_2, hE⟩ := cl_e hE
  refine x_kV (o := o_2) (z_runS (As := [.ref r_1, .int x6, .ref x4]) (rest := []) C (ct_X7_writeSquare l X k_r_1 k_x4 eo_2) cw_X8_77 hW hZ rfl hl.1 (Nat.le_of_ble_eq_true rfl) rfl dX8_writeMove_149 ⟨Nat.le_of_ble_eq_true rfl, Nat.le_of_ble_eq_true rfl⟩ ⟨Nat.le_refl _, Nat.le_refl _⟩) hZ (fun _ _ hW km hZ => ?_)
  replace hkm := hkm.tr km
  replace k_x0 := km.at k_x0 (by decide)
  replace k_x4 := km.at k_x4 (by decide)
  refine lv_iload C.1 C.2.1 dX8_writeMove_152 (lv_at hl 2 rfl) ?_
  obtain ⟨o_3, eo_3, hE⟩ := cl_e hE
  refine x_kI (o := o_3) (z_runS (As := [.int x5]) (rest := []) C (ct_X5_becomes l X eo_3) cw_X8_83 hW hZ rfl hl.1 (Nat.le_of_ble_eq_true rfl) rfl dX8_writeMove_154 ⟨Nat.le_of_ble_eq_true rfl, Nat.le_of_ble_eq_true rfl⟩ ⟨Nat.le_refl _, Nat.le_refl _⟩) hZ (fun _ _ hW km hZ => ?_)
  replace hkm := hkm.tr km
  replace k_x0 := km.at k_x0 (by decide)
  replace k_x4 := km.at k_x4 (by decide)
  refine lv_iconst (v := (-1 : Int32)) C.1 C.2.1 dX8_writeMove_157 (by decide) ?_
  refine lv_icmp_eq (tgt := 187) C.1 C.2.1 dX8_writeMove_158 (by decide) (fun c_4 => ?_) (fun c_4 => ?_)
  · have hE := br_p hE c_4
    exact bX8_writeMove_187 C hkm hW hZ _ (lv_sub hl [] rfl) hE
  · have hE := br_n hE c_4
    refine lv_aload C.1 C.2.1 dX8_writeMove_161 (lv_at hl 1 rfl) ?_
    refine lv_bipush (v := (61 : Int32)) C.1 C.2.1 dX8_writeMove_163 (by decide) ?_
    obtain ⟨o_5, eo_5, hE⟩ := cl_e hE
    refine x_kV (o := o_5) (z_runV (As := [.int (61 : Int32)]) (rest := []) C (ct_X9_append l X k_x4 eo_5) cw_X8_63 hW hZ k_x4 (by decide) rfl rfl rfl hl.1 (Nat.le_of_ble_eq_true rfl) rfl dX8_writeMove_165 ⟨Nat.le_of_ble_eq_true rfl, Nat.le_of_ble_eq_true rfl⟩ ⟨Nat.le_refl _, Nat.le_refl _⟩) hZ (fun _ _ hW km hZ => ?_)
    replace hkm := hkm.tr km
    replace k_x0 := km.at k_x0 (by decide)
    replace k_x4 := km.at k_x4 (by decide)
    refine lv_aload C.1 C.2.1 dX8_writeMove_168 (lv_at hl 1 rfl) ?_
    refine lv_aload_n C.1 C.2.1 dX8_writeMove_170 rfl (lv_at hl 0 rfl) ?_
    obtain ⟨r_6, er_6, hE⟩ := cl_e hE
    refine gf_X8_27 C hW k_x0 er_6 dX8_writeMove_171 (fun k_r_6 => ?_)
    refine lv_iconst (v := (2 : Int32)) C.1 C.2.1 dX8_writeMove_174 (by decide) ?_
    refine lv_iload C.1 C.2.1 dX8_writeMove_175 (lv_at hl 2 rfl) ?_
    obtain ⟨o_7, eo_7, hE⟩ := cl_e hE
    refine x_kI (o := o_7) (z_runS (As := [.int x5]) (rest := [.int (2 : Int32), .ref r_6, .ref x4]) C (ct_X5_becomes l X eo_7) cw_X8_83 hW hZ rfl hl.1 (Nat.le_of_ble_eq_true rfl) rfl dX8_writeMove_177 ⟨Nat.le_of_ble_eq_true rfl, Nat.le_of_ble_eq_true rfl⟩ ⟨Nat.le_refl _, Nat.le_refl _⟩) hZ (fun _ _ hW km hZ => ?_)
    replace hkm := hkm.tr km
    replace k_x0 := km.at k_x0 (by decide)
    replace k_x4 := km.at k_x4 (by decide)
    replace k_r_6 := km.at k_r_6 (by decide)
    refine lv_imul C.1 C.2.1 dX8_writeMove_180 ?_
    obtain ⟨o_8, eo_8, hE⟩ := cl_e hE
    refine x_kI (o := o_8) (z_runV (As := [.int ((2 : Int32) * o_7.1)]) (rest := [.ref x4]) C (ct_X1_letterOf l X k_r_6 eo_8) cw_X8_58 hW hZ k_r_6 (by decide) rfl rfl rfl hl.1 (Nat.le_of_ble_eq_true rfl) rfl dX8_writeMove_181 ⟨Nat.le_of_ble_eq_true rfl, Nat.le_of_ble_eq_true rfl⟩ ⟨Nat.le_refl _, Nat.le_refl _⟩) hZ (fun _ _ hW km hZ => ?_)
    replace hkm := hkm.tr km
    replace k_x0 := km.at k_x0 (by decide)
    replace k_x4 := km.at k_x4 (by decide)
    obtain ⟨o_9, eo_9, hE⟩ := cl_e hE
    refine x_kV (o := o_9) (z_runV (As := [.int o_8.1]) (rest := []) C (ct_X9_append l X k_x4 eo_9) cw_X8_63 hW hZ k_x4 (by decide) rfl rfl rfl hl.1 (Nat.le_of_ble_eq_true rfl) rfl dX8_writeMove_184 ⟨Nat.le_of_ble_eq_true rfl, Nat.le_of_ble_eq_true rfl⟩ ⟨Nat.le_refl _, Nat.le_refl _⟩) hZ (fun _ _ hW km hZ => ?_)
    replace hkm := hkm.tr km
    replace k_x0 := km.at k_x0 (by decide)
    replace k_x4 := km.at k_x4 (by decide)
    exact bX8_writeMove_187 C hkm hW hZ _ (lv_sub hl [] rfl) hE
set_option maxRecDepth 20000 in
theorem bX8_writeMove_125 {p : Program} {l : Launch} {e : Env} {s : State} {m : MethodId} {args : Array Value} {below : List Frame} {meth : Method} {c : Code} {X : Ec} {h0 : Hp} {o : Hp} {F : Nat} (C : Cx X p s m args meth c RX8 cX8_writeMove 9 none "writeMove") {h : Hp} {x0 : Nat} {x4 : Nat} {x5 : Int32} {x6 : Int32} {H : Heap} {locs : List Loc} (k_x0 : hK h x0 = 8) (k_x4 : hK h x4 = 9) (hkm : Km h0 h) (hW : Wx X h H) (hZ : va_S (aA (eB X)) s.heap H locs) (ls : Array Slot) (hl : lv_has ls 9 [(0, .ref x0), (4, .ref x4), (5, .int x5), (6, .int x6)]) (hE : sX8_writeMove_125 F h x0 x4 x5 x6 = some o) : W p l e (rm 5 107) s m args below meth c H locs 0 0 (MQ below (QV X h0 o) args s 0 0 (aA (eB X))) (F0 m 125 ls []) := by
  refine lv_iload C.1 C.2.1 dX8_writeMove_125 (lv_at hl 2 rfl) ?_
  obtain ⟨o_1, eo_1, hE⟩ := cl_e hE
  refine x_kI (o := o_1) (z_runS (As := [.int x5]) (rest := []) C (ct_X5_takenBy l X eo_1) cw_X8_74 hW hZ rfl hl.1 (Nat.le_of_ble_eq_true rfl) rfl dX8_writeMove_127 ⟨Nat.le_of_ble_eq_true rfl, Nat.le_of_ble_eq_true rfl⟩ ⟨Nat.le_refl _, Nat.le_refl _⟩) hZ (fun _ _ hW km hZ => ?_)
  replace hkm := hkm.tr km
  replace k_x0 := km.at k_x0 (by decide)
  replace k_x4 := km.at k_x4 (by decide)
  refine lv_iconst (v := (-1 : Int32)) C.1 C.2.1 dX8_writeMove_130 (by decide) ?_
  refine lv_icmp_eq (tgt := 141) C.1 C.2.1 dX8_writeMove_131 (by decide) (fun c_2 => ?_) (fun c_2 => ?_)
  · have hE := br_p hE c_2
    exact bX8_writeMove_141 C k_x0 k_x4 hkm hW hZ _ (lv_sub hl [0, 1, 2, 3] rfl) hE
  · have hE := br_n hE c_2
    refine lv_aload C.1 C.2.1 dX8_writeMove_134 (lv_at hl 1 rfl) ?_
    refine lv_bipush (v := (120 : Int32)) C.1 C.2.1 dX8_writeMove_136 (by decide) ?_
    obtain ⟨o_3, eo_3, hE⟩ := cl_e hE
    refine x_kV (o := o_3) (z_runV (As := [.int (120 : Int32)]) (rest := []) C (ct_X9_append l X k_x4 eo_3) cw_X8_63 hW hZ k_x4 (by decide) rfl rfl rfl hl.1 (Nat.le_of_ble_eq_true rfl) rfl dX8_writeMove_138 ⟨Nat.le_of_ble_eq_true rfl, Nat.le_of_ble_eq_true rfl⟩ ⟨Nat.le_refl _, Nat.le_refl _⟩) hZ (fun _ _ hW km hZ => ?_)
    replace hkm := hkm.tr km
    replace k_x0 := km.at k_x0 (by decide)
    replace k_x4 := km.at k_x4 (by decide)
    exact bX8_writeMove_141 C k_x0 k_x4 hkm hW hZ _ (lv_sub hl [0, 1, 2, 3] rfl) hE
set_option maxRecDepth 20000 in
theorem bX8_writeMove_115 {p : Program} {l : Launch} {e : Env} {s : State} {m : MethodId} {args : Array Value} {below : List Frame} {meth : Method} {c : Code} {X : Ec} {h0 : Hp} {o : Hp} {F : Nat} (C : Cx X p s m args meth c RX8 cX8_writeMove 9 none "writeMove") {h : Hp} {x0 : Nat} {x1 : Nat} {x2 : Int32} {x4 : Nat} {x5 : Int32} {x6 : Int32} {H : Heap} {locs : List Loc} (k_x0 : hK h x0 = 8) (k_x1 : hK h x1 = 17) (k_x4 : hK h x4 = 9) (hkm : Km h0 h) (hW : Wx X h H) (hZ : va_S (aA (eB X)) s.heap H locs) (ls : Array Slot) (hl : lv_has ls 9 [(0, .ref x0), (1, .ref x1), (2, .int x2), (4, .ref x4), (5, .int x5), (6, .int x6)]) (hE : sX8_writeMove_115 F h x0 x1 x2 x4 x5 x6 = some o) : W p l e (rm 5 107) s m args below meth c H locs 0 0 (MQ below (QV X h0 o) args s 0 0 (aA (eB X))) (F0 m 115 ls []) := by
  refine lv_aload_n C.1 C.2.1 dX8_writeMove_115 rfl (lv_at hl 0 rfl) ?_
  refine lv_aload_n C.1 C.2.1 dX8_writeMove_116 rfl (lv_at hl 1 rfl) ?_
  refine lv_iload_n C.1 C.2.1 dX8_writeMove_117 rfl (lv_at hl 2 rfl) ?_
  refine lv_iload C.1 C.2.1 dX8_writeMove_118 (lv_at hl 4 rfl) ?_
  refine lv_aload C.1 C.2.1 dX8_writeMove_120 (lv_at hl 3 rfl) ?_
  obtain ⟨o_1, eo_1, hE⟩ := cl_e hE
  refine x_kV (o := o_1) (z_runV (As := [.ref x1, .int x2, .int x5, .ref x4]) (rest := []) C (ct_X8_writeLeft l X F k_x0 k_x1 k_x4 eo_1) cw_X8_70 hW hZ k_x0 (by decide) rfl rfl rfl hl.1 (Nat.le_of_ble_eq_true rfl) rfl dX8_writeMove_122 ⟨Nat.le_of_ble_eq_true rfl, Nat.le_of_ble_eq_true rfl⟩ ⟨Nat.le_refl _, Nat.le_refl _⟩) hZ (fun _ _ hW km hZ => ?_)
  replace hkm := hkm.tr km
  replace k_x0 := km.at k_x0 (by decide)
  replace k_x1 := km.at k_x1 (by decide)
  replace k_x4 := km.at k_x4 (by decide)
  exact bX8_writeMove_125 C k_x0 k_x4 hkm hW hZ _ (lv_sub hl [0, 3, 4, 5] rfl) hE
set_option maxRecDepth 20000 in
theorem bX8_writeMove_44 {p : Program} {l : Launch} {e : Env} {s : State} {m : MethodId} {args : Array Value} {below : List Frame} {meth : Method} {c : Code} {X : Ec} {h0 : Hp} {o : Hp} {F : Nat} (C : Cx X p s m args meth c RX8 cX8_writeMove 9 none "writeMove") {h : Hp} {t0 : Nat} {t1 : Nat} {H : Heap} {locs : List Loc} (k_t0 : t0 < 52) (k_t1 : hK h t1 = 9) (hkm : Km h0 h) (hW : Wx X h H) (hZ : va_S (aA (eB X)) s.heap H locs) (ls : Array Slot) (hl : lv_has ls 9 []) (hE : sX8_writeMove_44 F h  t0 t1 = some o) : W p l e (rm 5 107) s m args below meth c H locs 0 0 (MQ below (QV X h0 o) args s 0 0 (aA (eB X))) (F0 m 44 ls [.ref (X.2.2.2.1 t0), .ref t1]) := by
  obtain ⟨o_1, eo_1, hE⟩ := cl_e hE
  refine x_kV (o := o_1) (z_runV (As := [.ref (X.2.2.2.1 t0)]) (rest := []) C (ct_X9_appendAll l X F k_t1 k_t0 eo_1) cw_X8_51 hW hZ k_t1 (by decide) rfl rfl rfl hl.1 (Nat.le_of_ble_eq_true rfl) rfl dX8_writeMove_44 ⟨Nat.le_of_ble_eq_true rfl, Nat.le_of_ble_eq_true rfl⟩ ⟨Nat.le_refl _, Nat.le_refl _⟩) hZ (fun _ _ hW km hZ => ?_)
  replace hkm := hkm.tr km
  exact x_vret C rfl hW hZ hkm hE dX8_writeMove_47
set_option maxRecDepth 20000 in
theorem ct_X8_writeMove (l : Launch) (X : Ec) (F : Nat) {h : Hp} {x0 : Nat} {x1 : Nat} {x2 : Int32} {x3 : Int32} {x4 : Nat} {o : Hp} (k_x0 : hK h x0 = 8) (k_x1 : hK h x1 = 17) (k_x4 : hK h x4 = 9) (hE : sX8_writeMove F h x0 x1 x2 x3 x4 = some o) : MetV l yX8_writeMove cX8_writeMove 9 none 5 107 X [.ref x0, .ref x1, .int x2, .int x3, .ref x4] h o := by
  refine x_met (by decide) (Nat.le_of_ble_eq_true rfl) ?_
  intro p e s m below meth c ls C hl hW hZ
  have hl : lv_has ls 9 [(0, .ref x0), (1, .ref x1), (2, .int x2), (3, .int x3), (4, .ref x4)] := hl
  have hkm : Km h h := Km.rf h
  refine lv_aload_n C.1 C.2.1 dX8_writeMove_0 rfl (lv_at hl 1 rfl) ?_
  refine lv_iload_n C.1 C.2.1 dX8_writeMove_1 rfl (lv_at hl 3 rfl) ?_
  obtain ⟨g_1, hE⟩ := gd_e hE
  refine y_iald C hW k_x1 g_1 dX8_writeMove_2 ?_
  obtain ⟨v_2, ev_2, hE⟩ := nm_e2 hE
  refine x_nmI ev_2 ?_
  refine lv_istore (lv' := [(5, .int v_2), (0, .ref x0), (1, .ref x1), (2, .int x2), (3, .int x3), (4, .ref x4)]) C.1 C.2.1 dX8_writeMove_3 hl (by decide) rfl (fun ls hl => ?_)
  refine lv_iload C.1 C.2.1 dX8_writeMove_5 (lv_at hl 0 rfl) ?_
  obtain ⟨o_3, eo_3, hE⟩ := cl_e hE
  refine x_kI (o := o_3) (z_runS (As := [.int v_2]) (rest := []) C (ct_X5_comeTo l X eo_3) cw_X8_35 hW hZ rfl hl.1 (Nat.le_of_ble_eq_true rfl) rfl dX8_writeMove_7 ⟨Nat.le_of_ble_eq_true rfl, Nat.le_of_ble_eq_true rfl⟩ ⟨Nat.le_refl _, Nat.le_refl _⟩) hZ (fun _ _ hW km hZ => ?_)
  replace hkm := hkm.tr km
  replace k_x0 := km.at k_x0 (by decide)
  replace k_x1 := km.at k_x1 (by decide)
  replace k_x4 := km.at k_x4 (by decide)
  refine lv_istore (lv' := [(6, .int o_3.1), (5, .int v_2), (0, .ref x0), (1, .ref x1), (2, .int x2), (3, .int x3), (4, .ref x4)]) C.1 C.2.1 dX8_writeMove_10 hl (by decide) rfl (fun ls hl => ?_)
  refine lv_iload C.1 C.2.1 dX8_writeMove_12 (lv_at hl 1 rfl) ?_
  obtain ⟨o_4, eo_4, hE⟩ := cl_e hE
  refine x_kI (o := o_4) (z_runS (As := [.int v_2]) (rest := []) C (ct_X5_kindOf l X eo_4) cw_X8_41 hW hZ rfl hl.1 (Nat.le_of_ble_eq_true rfl) rfl dX8_writeMove_14 ⟨Nat.le_of_ble_eq_true rfl, Nat.le_of_ble_eq_true rfl⟩ ⟨Nat.le_refl _, Nat.le_refl _⟩) hZ (fun _ _ hW km hZ => ?_)
  replace hkm := hkm.tr km
  replace k_x0 := km.at k_x0 (by decide)
  replace k_x1 := km.at k_x1 (by decide)
  replace k_x4 := km.at k_x4 (by decide)
  refine lv_istore (lv' := [(7, .int o_4.1), (6, .int o_3.1), (5, .int v_2), (0, .ref x0), (1, .ref x1), (2, .int x2), (3, .int x3), (4, .ref x4)]) C.1 C.2.1 dX8_writeMove_17 hl (by decide) rfl (fun ls hl => ?_)
  refine lv_iload C.1 C.2.1 dX8_writeMove_19 (lv_at hl 0 rfl) ?_
  refine lv_iconst (v := (2 : Int32)) C.1 C.2.1 dX8_writeMove_21 (by decide) ?_
  refine lv_icmp_ne (tgt := 48) C.1 C.2.1 dX8_writeMove_22 (by decide) (fun c_5 => ?_) (fun c_5 => ?_)
  · have hE := br_n hE c_5
    refine lv_iload C.1 C.2.1 dX8_writeMove_48 (lv_at hl 2 rfl) ?_
    obtain ⟨o_6, eo_6, hE⟩ := cl_e hE
    refine x_kI (o := o_6) (z_runS (As := [.int v_2]) (rest := []) C (ct_X5_manOf l X eo_6) cw_X8_55 hW hZ rfl hl.1 (Nat.le_of_ble_eq_true rfl) rfl dX8_writeMove_50 ⟨Nat.le_of_ble_eq_true rfl, Nat.le_of_ble_eq_true rfl⟩ ⟨Nat.le_refl _, Nat.le_refl _⟩) hZ (fun _ _ hW km hZ => ?_)
    replace hkm := hkm.tr km
    replace k_x0 := km.at k_x0 (by decide)
    replace k_x1 := km.at k_x1 (by decide)
    replace k_x4 := km.at k_x4 (by decide)
    refine lv_istore (lv' := [(8, .int o_6.1), (7, .int o_4.1), (6, .int o_3.1), (5, .int v_2), (0, .ref x0), (1, .ref x1), (2, .int x2), (3, .int x3), (4, .ref x4)]) C.1 C.2.1 dX8_writeMove_53 hl (by decide) rfl (fun ls hl => ?_)
    refine lv_iload C.1 C.2.1 dX8_writeMove_55 (lv_at hl 1 rfl) ?_
    refine lv_iconst (v := (3 : Int32)) C.1 C.2.1 dX8_writeMove_57 (by decide) ?_
    refine lv_icmp_ne (tgt := 87) C.1 C.2.1 dX8_writeMove_58 (by decide) (fun c_7 => ?_) (fun c_7 => ?_)
    · have hE := br_n hE c_7
      refine lv_iload C.1 C.2.1 dX8_writeMove_87 (lv_at hl 0 rfl) ?_
      refine lv_aload_n C.1 C.2.1 dX8_writeMove_89 rfl (lv_at hl 4 rfl) ?_
      obtain ⟨r_8, er_8, hE⟩ := cl_e hE
      refine gf_X8_27 C hW k_x0 er_8 dX8_writeMove_90 (fun k_r_8 => ?_)
      refine gf_X8_66 C hW k_r_8 dX8_writeMove_93 ?_
      refine lv_icmp_eq (tgt := 115) C.1 C.2.1 dX8_writeMove_96 (by decide) (fun c_9 => ?_) (fun c_9 => ?_)
      · have hE := br_p hE c_9
        exact bX8_writeMove_115 C k_x0 k_x1 k_x4 hkm hW hZ _ (lv_sub hl [4, 5, 6, 8, 3, 2] rfl) hE
      · have hE := br_n hE c_9
        refine lv_aload C.1 C.2.1 dX8_writeMove_99 (lv_at hl 8 rfl) ?_
        refine lv_aload_n C.1 C.2.1 dX8_writeMove_101 rfl (lv_at hl 4 rfl) ?_
        obtain ⟨r_10, er_10, hE⟩ := cl_e hE
        refine gf_X8_27 C hW k_x0 er_10 dX8_writeMove_102 (fun k_r_10 => ?_)
        refine lv_iconst (v := (2 : Int32)) C.1 C.2.1 dX8_writeMove_105 (by decide) ?_
        refine lv_iload C.1 C.2.1 dX8_writeMove_106 (lv_at hl 0 rfl) ?_
        refine lv_imul C.1 C.2.1 dX8_writeMove_108 ?_
        obtain ⟨o_11, eo_11, hE⟩ := cl_e hE
        refine x_kI (o := o_11) (z_runV (As := [.int ((2 : Int32) * o_6.1)]) (rest := [.ref x4]) C (ct_X1_letterOf l X k_r_10 eo_11) cw_X8_58 hW hZ k_r_10 (by decide) rfl rfl rfl hl.1 (Nat.le_of_ble_eq_true rfl) rfl dX8_writeMove_109 ⟨Nat.le_of_ble_eq_true rfl, Nat.le_of_ble_eq_true rfl⟩ ⟨Nat.le_refl _, Nat.le_refl _⟩) hZ (fun _ _ hW km hZ => ?_)
        replace hkm := hkm.tr km
        replace k_x0 := km.at k_x0 (by decide)
        replace k_x1 := km.at k_x1 (by decide)
        replace k_x4 := km.at k_x4 (by decide)
        obtain ⟨o_12, eo_12, hE⟩ := cl_e hE
        refine x_kV (o := o_12) (z_runV (As := [.int o_11.1]) (rest := []) C (ct_X9_append l X k_x4 eo_12) cw_X8_63 hW hZ k_x4 (by decide) rfl rfl rfl hl.1 (Nat.le_of_ble_eq_true rfl) rfl dX8_writeMove_112 ⟨Nat.le_of_ble_eq_true rfl, Nat.le_of_ble_eq_true rfl⟩ ⟨Nat.le_refl _, Nat.le_refl _⟩) hZ (fun _ _ hW km hZ => ?_)
        replace hkm := hkm.tr km
        replace k_x0 := km.at k_x0 (by decide)
        replace k_x1 := km.at k_x1 (by decide)
        replace k_x4 := km.at k_x4 (by decide)
        exact bX8_writeMove_115 C k_x0 k_x1 k_x4 hkm hW hZ _ (lv_sub hl [4, 5, 6, 8, 3, 2] rfl) hE
    · have hE := br_p hE c_7
      refine lv_aload C.1 C.2.1 dX8_writeMove_61 (lv_at hl 8 rfl) ?_
      refine lv_aload_n C.1 C.2.1 dX8_writeMove_63 rfl (lv_at hl 4 rfl) ?_
      obtain ⟨r_13, er_13, hE⟩ := cl_e hE
      refine gf_X8_27 C hW k_x0 er_13 dX8_writeMove_64 (fun k_r_13 => ?_)
      refine lv_iconst (v := (2 : Int32)) C.1 C.2.1 dX8_writeMove_67 (by decide) ?_
      refine lv_iload C.1 C.2.1 dX8_writeMove_68 (lv_at hl 0 rfl) ?_
      refine lv_imul C.1 C.2.1 dX8_writeMove_70 ?_
      obtain ⟨o_14, eo_14, hE⟩ := cl_e hE
      refine x_kI (o := o_14) (z_runV (As := [.int ((2 : Int32) * o_6.1)]) (rest := [.ref x4]) C (ct_X1_letterOf l X k_r_13 eo_14) cw_X8_58 hW hZ k_r_13 (by decide) rfl rfl rfl hl.1 (Nat.le_of_ble_eq_true rfl) rfl dX8_writeMove_71 ⟨Nat.le_of_ble_eq_true rfl, Nat.le_of_ble_eq_true rfl⟩ ⟨Nat.le_refl _, Nat.le_refl _⟩) hZ (fun _ _ hW km hZ => ?_)
      replace hkm := hkm.tr km
      replace k_x0 := km.at k_x0 (by decide)
      replace k_x1 := km.at k_x1 (by decide)
      replace k_x4 := km.at k_x4 (by decide)
      obtain ⟨o_15, eo_15, hE⟩ := cl_e hE
      refine x_kV (o := o_15) (z_runV (As := [.int o_14.1]) (rest := []) C (ct_X9_append l X k_x4 eo_15) cw_X8_63 hW hZ k_x4 (by decide) rfl rfl rfl hl.1 (Nat.le_of_ble_eq_true rfl) rfl dX8_writeMove_74 ⟨Nat.le_of_ble_eq_true rfl, Nat.le_of_ble_eq_true rfl⟩ ⟨Nat.le_refl _, Nat.le_refl _⟩) hZ (fun _ _ hW km hZ => ?_)
      replace hkm := hkm.tr km
      replace k_x0 := km.at k_x0 (by decide)
      replace k_x1 := km.at k_x1 (by decide)
      replace k_x4 := km.at k_x4 (by decide)
      refine lv_aload C.1 C.2.1 dX8_writeMove_77 (lv_at hl 8 rfl) ?_
      refine lv_bipush (v := (64 : Int32)) C.1 C.2.1 dX8_writeMove_79 (by decide) ?_
      obtain ⟨o_16, eo_16, hE⟩ := cl_e hE
      refine x_kV (o := o_16) (z_runV (As := [.int (64 : Int32)]) (rest := []) C (ct_X9_append l X k_x4 eo_16) cw_X8_63 hW hZ k_x4 (by decide) rfl rfl rfl hl.1 (Nat.le_of_ble_eq_true rfl) rfl dX8_writeMove_81 ⟨Nat.le_of_ble_eq_true rfl, Nat.le_of_ble_eq_true rfl⟩ ⟨Nat.le_refl _, Nat.le_refl _⟩) hZ (fun _ _ hW km hZ => ?_)
      replace hkm := hkm.tr km
      replace k_x0 := km.at k_x0 (by decide)
      replace k_x1 := km.at k_x1 (by decide)
      replace k_x4 := km.at k_x4 (by decide)
      refine lv_goto (tgt := 125) C.1 C.2.1 dX8_writeMove_84 (by decide) ?_
      exact bX8_writeMove_125 C k_x0 k_x4 hkm hW hZ _ (lv_sub hl [4, 8, 3, 2] rfl) hE
  · have hE := br_p hE c_5
    refine lv_aload C.1 C.2.1 dX8_writeMove_25 (lv_at hl 7 rfl) ?_
    refine lv_iload C.1 C.2.1 dX8_writeMove_27 (lv_at hl 1 rfl) ?_
    refine lv_iload C.1 C.2.1 dX8_writeMove_29 (lv_at hl 2 rfl) ?_
    obtain ⟨o_17, eo_17, hE⟩ := cl_e hE
    refine x_kI (o := o_17) (z_runS (As := [.int v_2]) (rest := [.int o_3.1, .ref x4]) C (ct_X5_leftBy l X eo_17) cw_X8_44 hW hZ rfl hl.1 (Nat.le_of_ble_eq_true rfl) rfl dX8_writeMove_31 ⟨Nat.le_of_ble_eq_true rfl, Nat.le_of_ble_eq_true rfl⟩ ⟨Nat.le_refl _, Nat.le_refl _⟩) hZ (fun _ _ hW km hZ => ?_)
    replace hkm := hkm.tr km
    replace k_x0 := km.at k_x0 (by decide)
    replace k_x1 := km.at k_x1 (by decide)
    replace k_x4 := km.at k_x4 (by decide)
    refine lv_icmp_le (tgt := 42) C.1 C.2.1 dX8_writeMove_34 (by decide) (fun c_18 => ?_) (fun c_18 => ?_)
    · have hE := br_p hE c_18
      refine va_ldcS C.1 C.2.1 C.2.2.2.1 (C.2.2.2.2.2.2.2.2.1 27 (by decide)).2 dX8_writeMove_42 ?_
      exact bX8_writeMove_44 C (by decide) k_x4 hkm hW hZ _ (lv_sub hl [] rfl) hE
    · have hE := br_n hE c_18
      refine va_ldcS C.1 C.2.1 C.2.2.2.1 (C.2.2.2.2.2.2.2.2.1 26 (by decide)).2 dX8_writeMove_37 ?_
      refine lv_goto (tgt := 44) C.1 C.2.1 dX8_writeMove_39 (by decide) ?_
      exact bX8_writeMove_44 C (by decide) k_x4 hkm hW hZ _ (lv_sub hl [] rfl) hE
theorem m_298 : Cond.fieldLink RX8 113 (TX3 5).1 (TX3 5).2.1 (TX3 5).2.2.1 ∈ W0 := w0_in (List.mem_append_right _ (List.mem_of_getElem? (i := 298) (by decide +kernel))) rfl
theorem m_1343 : Cond.instanceMethod yX5_make ∈ W0 := w0_in (List.mem_append_right _ (List.mem_of_getElem? (i := 1343) (by decide +kernel))) rfl
theorem m_1344 : Cond.selects RX5 yX5_make yX5_make ∈ W0 := w0_in (List.mem_append_right _ (List.mem_of_getElem? (i := 1344) (by decide +kernel))) rfl
theorem m_1345 : Cond.code yX5_make cX5_make 8 none ∈ W0 := w0_in (List.mem_append_right _ (List.mem_of_getElem? (i := 1345) (by decide +kernel))) rfl
theorem m_1381 : Cond.instanceMethod yX5_endOf ∈ W0 := w0_in (List.mem_append_right _ (List.mem_of_getElem? (i := 1381) (by decide +kernel))) rfl
theorem m_1382 : Cond.selects RX5 yX5_endOf yX5_endOf ∈ W0 := w0_in (List.mem_append_right _ (List.mem_of_getElem? (i := 1382) (by decide +kernel))) rfl
theorem m_1383 : Cond.code yX5_endOf cX5_endOf 3 (some .int) ∈ W0 := w0_in (List.mem_append_right _ (List.mem_of_getElem? (i := 1383) (by decide +kernel))) rfl
theorem m_1400 : Cond.instanceMethod yX5_winnerOf ∈ W0 := w0_in (List.mem_append_right _ (List.mem_of_getElem? (i := 1400) (by decide +kernel))) rfl
theorem m_1401 : Cond.selects RX5 yX5_winnerOf yX5_winnerOf ∈ W0 := w0_in (List.mem_append_right _ (List.mem_of_getElem? (i := 1401) (by decide +kernel))) rfl
theorem m_1402 : Cond.code yX5_winnerOf cX5_winnerOf 6 (some .int) ∈ W0 := w0_in (List.mem_append_right _ (List.mem_of_getElem? (i := 1402) (by decide +kernel))) rfl
theorem m_1454 : Cond.methodLink RX8 97 yX3_copyFrom ∈ W0 := w0_in (List.mem_append_right _ (List.mem_of_getElem? (i := 1454) (by decide +kernel))) rfl
theorem m_1455 : Cond.methodLink RX8 101 yX5_make ∈ W0 := w0_in (List.mem_append_right _ (List.mem_of_getElem? (i := 1455) (by decide +kernel))) rfl
theorem m_1456 : Cond.methodLink RX8 105 yX5_endOf ∈ W0 := w0_in (List.mem_append_right _ (List.mem_of_getElem? (i := 1456) (by decide +kernel))) rfl
theorem m_1457 : Cond.methodLink RX8 109 yX5_winnerOf ∈ W0 := w0_in (List.mem_append_right _ (List.mem_of_getElem? (i := 1457) (by decide +kernel))) rfl
theorem m_1458 : Cond.methodLink RX8 116 yX5_isRoyalHit ∈ W0 := w0_in (List.mem_append_right _ (List.mem_of_getElem? (i := 1458) (by decide +kernel))) rfl
section
variable {p : Program} {l : Launch} {e : Env} {R : Room} {s : State} {m : MethodId} {args : Array Value} {below : List Frame} {meth : Method} {c : Code} {H : Heap} {locs : List Loc} {cells slots : Nat} {Q : State → Prop}
variable {cc : ByteArray} {pc : Nat} {ls : Array Slot} {rest : List Value} {X : Ec} {h h1 : Hp} {nL : Nat} {rt : Option FieldType} {mn : String}
theorem gf_X8_12 {a r : Nat} (C : Cx X p s m args meth c RX8 cc nL rt mn) (hW : Wx X h H) (ha : hK h a = 8) (hr : hR h a 2 = some r) (hdg : decode cc pc = .ok (.getfield 12, 3)) (kk : hK h r = 3 → W p l e R s m args below meth c H locs cells slots Q (F0 m (pc + 3) ls (.ref r :: rest))) : W p l e R s m args below meth c H locs cells slots Q (F0 m pc ls (.ref a :: rest)) :=
  y_getr C hW ha i_X8 (by decide) rfl (by decide) m_403 rfl rfl hr hdg kk
theorem gf_X8_31 {a r : Nat} (C : Cx X p s m args meth c RX8 cc nL rt mn) (hW : Wx X h H) (ha : hK h a = 8) (hr : hR h a 1 = some r) (hdg : decode cc pc = .ok (.getfield 31, 3)) (kk : hK h r = 5 → W p l e R s m args below meth c H locs cells slots Q (F0 m (pc + 3) ls (.ref r :: rest))) : W p l e R s m args below meth c H locs cells slots Q (F0 m pc ls (.ref a :: rest)) :=
  y_getr C hW ha i_X8 (by decide) rfl (by decide) m_402 rfl rfl hr hdg kk
theorem gf_X8_113 {a : Nat} (C : Cx X p s m args meth c RX8 cc nL rt mn) (hW : Wx X h H) (ha : hK h a = 3) (hdg : decode cc pc = .ok (.getfield 113, 3)) (kk : W p l e R s m args below meth c H locs cells slots Q (F0 m (pc + 3) ls (.int (hI h a 5) :: rest))) : W p l e R s m args below meth c H locs cells slots Q (F0 m pc ls (.ref a :: rest)) :=
  y_geti C hW ha i_X3 (by decide) rfl (by decide) m_298 rfl hdg kk
end
theorem cw_X8_97 : cwd RX8 97 yX3_copyFrom cX3_copyFrom 3 none false 1 := ⟨m_1255, m_1454, m_8, ⟨m_1253, m_1254⟩, by decide, by decide, by decide +kernel⟩
theorem cw_X8_101 : cwd RX8 101 yX5_make cX5_make 8 none false 2 := ⟨m_1345, m_1455, m_7, ⟨m_1343, m_1344⟩, by decide, by decide, by decide +kernel⟩
theorem cw_X8_105 : cwd RX8 105 yX5_endOf cX5_endOf 3 (some .int) false 1 := ⟨m_1383, m_1456, m_7, ⟨m_1381, m_1382⟩, by decide, by decide, by decide +kernel⟩
theorem cw_X8_109 : cwd RX8 109 yX5_winnerOf cX5_winnerOf 6 (some .int) false 2 := ⟨m_1402, m_1457, m_7, ⟨m_1400, m_1401⟩, by decide, by decide, by decide +kernel⟩
theorem cw_X8_116 : cwd RX8 116 yX5_isRoyalHit cX5_isRoyalHit 3 (some .boolean) false 2 := ⟨m_1092, m_1458, m_7, ⟨m_1090, m_1091⟩, by decide, by decide, by decide +kernel⟩
theorem dX8_markOf_0 : decode cX8_markOf 0 = .ok (.aload_n 0, 1) := by decide +kernel
theorem dX8_markOf_1 : decode cX8_markOf 1 = .ok (.getfield 12, 3) := by decide +kernel
theorem dX8_markOf_4 : decode cX8_markOf 4 = .ok (.aload_n 1, 1) := by decide +kernel
theorem dX8_markOf_5 : decode cX8_markOf 5 = .ok (.invokevirtual 97, 3) := by decide +kernel
theorem dX8_markOf_8 : decode cX8_markOf 8 = .ok (.aload_n 0, 1) := by decide +kernel
theorem dX8_markOf_9 : decode cX8_markOf 9 = .ok (.getfield 31, 3) := by decide +kernel
theorem dX8_markOf_12 : decode cX8_markOf 12 = .ok (.aload_n 0, 1) := by decide +kernel
theorem dX8_markOf_13 : decode cX8_markOf 13 = .ok (.getfield 12, 3) := by decide +kernel
theorem dX8_markOf_16 : decode cX8_markOf 16 = .ok (.iload_n 2, 1) := by decide +kernel
theorem dX8_markOf_17 : decode cX8_markOf 17 = .ok (.invokevirtual 101, 3) := by decide +kernel
theorem dX8_markOf_20 : decode cX8_markOf 20 = .ok (.aload_n 0, 1) := by decide +kernel
theorem dX8_markOf_21 : decode cX8_markOf 21 = .ok (.getfield 31, 3) := by decide +kernel
theorem dX8_markOf_24 : decode cX8_markOf 24 = .ok (.aload_n 0, 1) := by decide +kernel
theorem dX8_markOf_25 : decode cX8_markOf 25 = .ok (.getfield 12, 3) := by decide +kernel
theorem dX8_markOf_28 : decode cX8_markOf 28 = .ok (.invokevirtual 105, 3) := by decide +kernel
theorem dX8_markOf_31 : decode cX8_markOf 31 = .ok (.istore_n 3, 1) := by decide +kernel
theorem dX8_markOf_32 : decode cX8_markOf 32 = .ok (.aload_n 0, 1) := by decide +kernel
theorem dX8_markOf_33 : decode cX8_markOf 33 = .ok (.getfield 31, 3) := by decide +kernel
theorem dX8_markOf_36 : decode cX8_markOf 36 = .ok (.aload_n 0, 1) := by decide +kernel
theorem dX8_markOf_37 : decode cX8_markOf 37 = .ok (.getfield 12, 3) := by decide +kernel
theorem dX8_markOf_40 : decode cX8_markOf 40 = .ok (.iload_n 3, 1) := by decide +kernel
theorem dX8_markOf_41 : decode cX8_markOf 41 = .ok (.invokevirtual 109, 3) := by decide +kernel
theorem dX8_markOf_44 : decode cX8_markOf 44 = .ok (.aload_n 1, 1) := by decide +kernel
theorem dX8_markOf_45 : decode cX8_markOf 45 = .ok (.getfield 113, 3) := by decide +kernel
theorem dX8_markOf_48 : decode cX8_markOf 48 = .ok (.if_icmp .ne 6, 3) := by decide +kernel
theorem dX8_markOf_51 : decode cX8_markOf 51 = .ok (.bipush 35, 2) := by decide +kernel
theorem dX8_markOf_53 : decode cX8_markOf 53 = .ok (.ireturn, 1) := by decide +kernel
theorem dX8_markOf_54 : decode cX8_markOf 54 = .ok (.aload_n 0, 1) := by decide +kernel
theorem dX8_markOf_55 : decode cX8_markOf 55 = .ok (.getfield 31, 3) := by decide +kernel
theorem dX8_markOf_58 : decode cX8_markOf 58 = .ok (.aload_n 0, 1) := by decide +kernel
theorem dX8_markOf_59 : decode cX8_markOf 59 = .ok (.getfield 12, 3) := by decide +kernel
theorem dX8_markOf_62 : decode cX8_markOf 62 = .ok (.aload_n 0, 1) := by decide +kernel
theorem dX8_markOf_63 : decode cX8_markOf 63 = .ok (.getfield 12, 3) := by decide +kernel
theorem dX8_markOf_66 : decode cX8_markOf 66 = .ok (.getfield 113, 3) := by decide +kernel
theorem dX8_markOf_69 : decode cX8_markOf 69 = .ok (.invokevirtual 116, 3) := by decide +kernel
theorem dX8_markOf_72 : decode cX8_markOf 72 = .ok (.ifCond .eq 8, 3) := by decide +kernel
theorem dX8_markOf_75 : decode cX8_markOf 75 = .ok (.bipush 43, 2) := by decide +kernel
theorem dX8_markOf_77 : decode cX8_markOf 77 = .ok (.goto 4, 3) := by decide +kernel
theorem dX8_markOf_80 : decode cX8_markOf 80 = .ok (.iconst (-1), 1) := by decide +kernel
theorem dX8_markOf_81 : decode cX8_markOf 81 = .ok (.ireturn, 1) := by decide +kernel
def sX8_markOf_81 (F : Nat) (h : Hp) (t0 : Int32) : Option (Int32 × Hp) := some (t0, h)
def sX8_markOf (F : Nat) (h : Hp) (x0 : Nat) (x1 : Nat) (x2 : Int32) : Option (Int32 × Hp) := cl (hR h x0 2) fun r_1 => cl (sX3_copyFrom F h r_1 x1) fun o_2 => cl (hR o_2 x0 1) fun r_3 => cl (hR o_2 x0 2) fun r_4 => cl (sX5_make F o_2 r_3 r_4 x2) fun o_5 => cl (hR o_5 x0 1) fun r_6 => cl (hR o_5 x0 2) fun r_7 => cl (sX5_endOf F o_5 r_6 r_7) fun o_8 => cl (hR o_8.2 x0 1) fun r_9 => cl (hR o_8.2 x0 2) fun r_10 => cl (sX5_winnerOf o_8.2 r_9 r_10 o_8.1) fun o_11 => br (o_11.1 = (hI o_11.2 x1 5)) (some ((35 : Int32), o_11.2)) (cl (hR o_11.2 x0 1) fun r_13 => cl (hR o_11.2 x0 2) fun r_14 => cl (hR o_11.2 x0 2) fun r_15 => cl (sX5_isRoyalHit F o_11.2 r_13 r_14 (hI o_11.2 r_15 5)) fun o_16 => br (o_16.1 = 0) (sX8_markOf_81 F o_16.2 (-1 : Int32)) (sX8_markOf_81 F o_16.2 (43 : Int32)))
set_option maxRecDepth 20000 in
theorem bX8_markOf_81 {p : Program} {l : Launch} {e : Env} {s : State} {m : MethodId} {args : Array Value} {below : List Frame} {meth : Method} {c : Code} {X : Ec} {h0 : Hp} {o : Int32 × Hp} {F : Nat} (C : Cx X p s m args meth c RX8 cX8_markOf 4 (some .int) "markOf") {h : Hp} {t0 : Int32} {H : Heap} {locs : List Loc} (hkm : Km h0 h) (hW : Wx X h H) (hZ : va_S (aA (eB X)) s.heap H locs) (ls : Array Slot) (hl : lv_has ls 4 []) (hE : sX8_markOf_81 F h  t0 = some o) : W p l e (rm 5 161) s m args below meth c H locs 0 0 (MQ below (QI X h0 o.1 o.2) args s 0 0 (aA (eB X))) (F0 m 81 ls [.int t0]) := by
  exact x_iret C rfl rfl hW hZ hkm hE dX8_markOf_81
set_option maxRecDepth 20000 in
theorem ct_X8_markOf (l : Launch) (X : Ec) (F : Nat) {h : Hp} {x0 : Nat} {x1 : Nat} {x2 : Int32} {o : Int32 × Hp} (k_x0 : hK h x0 = 8) (k_x1 : hK h x1 = 3) (hE : sX8_markOf F h x0 x1 x2 = some o) : MetI l yX8_markOf cX8_markOf 4 (some .int) 5 161 X [.ref x0, .ref x1, .int x2] h o := by
  refine x_met (by decide) (Nat.le_of_ble_eq_true rfl) ?_
  intro p e s m below meth c ls C hl hW hZ
  have hl : lv_has ls 4 [(0, .ref x0), (1, .ref x1), (2, .int x2)] := hl
  have hkm : Km h h := Km.rf h
  refine lv_aload_n C.1 C.2.1 dX8_markOf_0 rfl (lv_at hl 0 rfl) ?_
  obtain ⟨r_1, er_1, hE⟩ := cl_e hE
  refine gf_X8_12 C hW k_x0 er_1 dX8_markOf_1 (fun k_r_1 => ?_)
  refine lv_aload_n C.1 C.2.1 dX8_markOf_4 rfl (lv_at hl 1 rfl) ?_
  obtain ⟨o_2, eo_2, hE⟩ := cl_e hE
  refine x_kV (o := o_2) (z_runV (As := [.ref x1]) (rest := []) C (ct_X3_copyFrom l X F k_r_1 k_x1 eo_2) cw_X8_97 hW hZ k_r_1 (by decide) rfl rfl rfl hl.1 (Nat.le_of_ble_eq_true rfl) rfl dX8_markOf_5 ⟨Nat.le_of_ble_eq_true rfl, Nat.le_of_ble_eq_true rfl⟩ ⟨Nat.le_refl _, Nat.le_refl _⟩) hZ (fun _ _ hW km hZ => ?_)
  replace hkm := hkm.tr km
  replace k_x0 := km.at k_x0 (by decide)
  replace k_x1 := km.at k_x1 (by decide)
  refine lv_aload_n C.1 C.2.1 dX8_markOf_8 rfl (lv_at hl 0 rfl) ?_
  obtain ⟨r_3, er_3, hE⟩ := cl_e hE
  refine gf_X8_31 C hW k_x0 er_3 dX8_markOf_9 (fun k_r_3 => ?_)
  refine lv_aload_n C.1 C.2.1 dX8_markOf_12 rfl (lv_at hl 0 rfl) ?_
  obtain ⟨r_4, er_4, hE⟩ := cl_e hE
  refine gf_X8_12 C hW k_x0 er_4 dX8_markOf_13 (fun k_r_4 => ?_)
  refine lv_iload_n C.1 C.2.1 dX8_markOf_16 rfl (lv_at hl 2 rfl) ?_
  obtain ⟨o_5, eo_5, hE⟩ := cl_e hE
  refine x_kV (o := o_5) (z_runV (As := [.ref r_4, .int x2]) (rest := []) C (ct_X5_make l X F k_r_3 k_r_4 eo_5) cw_X8_101 hW hZ k_r_3 (by decide) rfl rfl rfl hl.1 (Nat.le_of_ble_eq_true rfl) rfl dX8_markOf_17 ⟨Nat.le_of_ble_eq_true rfl, Nat.le_of_ble_eq_true rfl⟩ ⟨Nat.le_refl _, Nat.le_refl _⟩) hZ (fun _ _ hW km hZ => ?_)
  replace hkm := hkm.tr km
  replace k_x0 := km.at k_x0 (by decide)
  replace k_x1 := km.at k_x1 (by decide)
  refine lv_aload_n C.1 C.2.1 dX8_markOf_20 rfl (lv_at hl 0 rfl) ?_
  obtain ⟨r_6, er_6, hE⟩ := cl_e hE
  refine gf_X8_31 C hW k_x0 er_6 dX8_markOf_21 (fun k_r_6 => ?_)
  refine lv_aload_n C.1 C.2.1 dX8_markOf_24 rfl (lv_at hl 0 rfl) ?_
  obtain ⟨r_7, er_7, hE⟩ := cl_e hE
  refine gf_X8_12 C hW k_x0 er_7 dX8_markOf_25 (fun k_r_7 => ?_)
  obtain ⟨o_8, eo_8, hE⟩ := cl_e hE
  refine x_kI (o := o_8) (z_runV (As := [.ref r_7]) (rest := []) C (ct_X5_endOf l X F k_r_6 k_r_7 eo_8) cw_X8_105 hW hZ k_r_6 (by decide) rfl rfl rfl hl.1 (Nat.le_of_ble_eq_true rfl) rfl dX8_markOf_28 ⟨Nat.le_of_ble_eq_true rfl, Nat.le_of_ble_eq_true rfl⟩ ⟨Nat.le_refl _, Nat.le_refl _⟩) hZ (fun _ _ hW km hZ => ?_)
  replace hkm := hkm.tr km
  replace k_x0 := km.at k_x0 (by decide)
  replace k_x1 := km.at k_x1 (by decide)
  refine lv_istore_n (lv' := [(3, .int o_8.1), (0, .ref x0), (1, .ref x1), (2, .int x2)]) C.1 C.2.1 dX8_markOf_31 rfl hl (by decide) rfl (fun ls hl => ?_)
  refine lv_aload_n C.1 C.2.1 dX8_markOf_32 rfl (lv_at hl 1 rfl) ?_
  obtain ⟨r_9, er_9, hE⟩ := cl_e hE
  refine gf_X8_31 C hW k_x0 er_9 dX8_markOf_33 (fun k_r_9 => ?_)
  refine lv_aload_n C.1 C.2.1 dX8_markOf_36 rfl (lv_at hl 1 rfl) ?_
  obtain ⟨r_10, er_10, hE⟩ := cl_e hE
  refine gf_X8_12 C hW k_x0 er_10 dX8_markOf_37 (fun k_r_10 => ?_)
  refine lv_iload_n C.1 C.2.1 dX8_markOf_40 rfl (lv_at hl 0 rfl) ?_
  obtain ⟨o_11, eo_11, hE⟩ := cl_e hE
  refine x_kI (o := o_11) (z_runV (As := [.ref r_10, .int o_8.1]) (rest := []) C (ct_X5_winnerOf l X k_r_9 k_r_10 eo_11) cw_X8_109 hW hZ k_r_9 (by decide) rfl rfl rfl hl.1 (Nat.le_of_ble_eq_true rfl) rfl dX8_markOf_41 ⟨Nat.le_of_ble_eq_true rfl, Nat.le_of_ble_eq_true rfl⟩ ⟨Nat.le_refl _, Nat.le_refl _⟩) hZ (fun _ _ hW km hZ => ?_)
  replace hkm := hkm.tr km
  replace k_x0 := km.at k_x0 (by decide)
  replace k_x1 := km.at k_x1 (by decide)
  refine lv_aload_n C.1 C.2.1 dX8_markOf_44 rfl (lv_at hl 2 rfl) ?_
  refine gf_X8_113 C hW k_x1 dX8_markOf_45 ?_
  refine lv_icmp_ne (tgt := 54) C.1 C.2.1 dX8_markOf_48 (by decide) (fun c_12 => ?_) (fun c_12 => ?_)
  · have hE := br_n hE c_12
    refine lv_aload_n C.1 C.2.1 dX8_markOf_54 rfl (lv_at hl 1 rfl) ?_
    obtain ⟨r_13, er_13, hE⟩ := cl_e hE
    refine gf_X8_31 C hW k_x0 er_13 dX8_markOf_55 (fun k_r_13 => ?_)
    refine lv_aload_n C.1 C.2.1 dX8_markOf_58 rfl (lv_at hl 1 rfl) ?_
    obtain ⟨r_14, er_14, hE⟩ := cl_e hE
    refine gf_X8_12 C hW k_x0 er_14 dX8_markOf_59 (fun k_r_14 => ?_)
    refine lv_aload_n C.1 C.2.1 dX8_markOf_62 rfl (lv_at hl 1 rfl) ?_
    obtain ⟨r_15, er_15, hE⟩ := cl_e hE
    refine gf_X8_12 C hW k_x0 er_15 dX8_markOf_63 (fun k_r_15 => ?_)
    refine gf_X8_113 C hW k_r_15 dX8_markOf_66 ?_
    obtain ⟨o_16, eo_16, hE⟩ := cl_e hE
    refine x_kI (o := o_16) (z_runV (As := [.ref r_14, .int (hI o_11.2 r_15 5)]) (rest := []) C (ct_X5_isRoyalHit l X F k_r_13 k_r_14 eo_16) cw_X8_116 hW hZ k_r_13 (by decide) rfl rfl rfl hl.1 (Nat.le_of_ble_eq_true rfl) rfl dX8_markOf_69 ⟨Nat.le_of_ble_eq_true rfl, Nat.le_of_ble_eq_true rfl⟩ ⟨Nat.le_refl _, Nat.le_refl _⟩) hZ (fun _ _ hW km hZ => ?_)
    replace hkm := hkm.tr km
    replace k_x0 := km.at k_x0 (by decide)
    replace k_x1 := km.at k_x1 (by decide)
    refine lv_if_eq (tgt := 80) C.1 C.2.1 dX8_markOf_72 (by decide) (fun c_17 => ?_) (fun c_17 => ?_)
    · have hE := br_p hE c_17
      refine lv_iconst (v := (-1 : Int32)) C.1 C.2.1 dX8_markOf_80 (by decide) ?_
      exact bX8_markOf_81 C hkm hW hZ _ (lv_sub hl [] rfl) hE
    · have hE := br_n hE c_17
      refine lv_bipush (v := (43 : Int32)) C.1 C.2.1 dX8_markOf_75 (by decide) ?_
      refine lv_goto (tgt := 81) C.1 C.2.1 dX8_markOf_77 (by decide) ?_
      exact bX8_markOf_81 C hkm hW hZ _ (lv_sub hl [] rfl) hE
  · have hE := br_p hE c_12
    refine lv_bipush (v := (35 : Int32)) C.1 C.2.1 dX8_markOf_51 (by decide) ?_
    exact x_iret C rfl rfl hW hZ hkm hE dX8_markOf_53
theorem m_48 : Cond.fieldLink RX8 126 (TX9 1).1 (TX9 1).2.1 (TX9 1).2.2.1 ∈ W0 := w0_in (List.mem_append_right _ (List.mem_of_getElem? (i := 48) (by decide +kernel))) rfl
theorem m_1474 : Cond.methodLink RX8 133 yX9_byteAt ∈ W0 := w0_in (List.mem_append_right _ (List.mem_of_getElem? (i := 1474) (by decide +kernel))) rfl
section
variable {p : Program} {l : Launch} {e : Env} {R : Room} {s : State} {m : MethodId} {args : Array Value} {below : List Frame} {meth : Method} {c : Code} {H : Heap} {locs : List Loc} {cells slots : Nat} {Q : State → Prop}
variable {cc : ByteArray} {pc : Nat} {ls : Array Slot} {rest : List Value} {X : Ec} {h h1 : Hp} {nL : Nat} {rt : Option FieldType} {mn : String}
theorem gf_X8_23 {a r : Nat} (C : Cx X p s m args meth c RX8 cc nL rt mn) (hW : Wx X h H) (ha : hK h a = 8) (hr : hR h a 3 = some r) (hdg : decode cc pc = .ok (.getfield 23, 3)) (kk : hK h r = 9 → W p l e R s m args below meth c H locs cells slots Q (F0 m (pc + 3) ls (.ref r :: rest))) : W p l e R s m args below meth c H locs cells slots Q (F0 m pc ls (.ref a :: rest)) :=
  y_getr C hW ha i_X8 (by decide) rfl (by decide) m_404 rfl rfl hr hdg kk
theorem gf_X8_126 {a : Nat} (C : Cx X p s m args meth c RX8 cc nL rt mn) (hW : Wx X h H) (ha : hK h a = 9) (hdg : decode cc pc = .ok (.getfield 126, 3)) (kk : W p l e R s m args below meth c H locs cells slots Q (F0 m (pc + 3) ls (.int (hI h a 1) :: rest))) : W p l e R s m args below meth c H locs cells slots Q (F0 m pc ls (.ref a :: rest)) :=
  y_geti C hW ha i_X9 (by decide) rfl (by decide) m_48 rfl hdg kk
end
theorem cw_X8_133 : cwd RX8 133 yX9_byteAt cX9_byteAt 2 (some .int) false 1 := ⟨m_659, m_1474, m_2, ⟨m_657, m_658⟩, by decide, by decide, by decide +kernel⟩
theorem dX8_begins_0 : decode cX8_begins 0 = .ok (.iconst 0, 1) := by decide +kernel
theorem dX8_begins_1 : decode cX8_begins 1 = .ok (.istore_n 2, 1) := by decide +kernel
theorem dX8_begins_2 : decode cX8_begins 2 = .ok (.iload_n 2, 1) := by decide +kernel
theorem dX8_begins_3 : decode cX8_begins 3 = .ok (.aload_n 0, 1) := by decide +kernel
theorem dX8_begins_4 : decode cX8_begins 4 = .ok (.getfield 23, 3) := by decide +kernel
theorem dX8_begins_7 : decode cX8_begins 7 = .ok (.getfield 126, 3) := by decide +kernel
theorem dX8_begins_10 : decode cX8_begins 10 = .ok (.if_icmp .ge 27, 3) := by decide +kernel
theorem dX8_begins_13 : decode cX8_begins 13 = .ok (.aload_n 0, 1) := by decide +kernel
theorem dX8_begins_14 : decode cX8_begins 14 = .ok (.getfield 23, 3) := by decide +kernel
theorem dX8_begins_17 : decode cX8_begins 17 = .ok (.iload_n 2, 1) := by decide +kernel
theorem dX8_begins_18 : decode cX8_begins 18 = .ok (.invokevirtual 133, 3) := by decide +kernel
theorem dX8_begins_21 : decode cX8_begins 21 = .ok (.aload_n 1, 1) := by decide +kernel
theorem dX8_begins_22 : decode cX8_begins 22 = .ok (.iload_n 2, 1) := by decide +kernel
theorem dX8_begins_23 : decode cX8_begins 23 = .ok (.invokevirtual 133, 3) := by decide +kernel
theorem dX8_begins_26 : decode cX8_begins 26 = .ok (.if_icmp .eq 5, 3) := by decide +kernel
theorem dX8_begins_29 : decode cX8_begins 29 = .ok (.iconst 0, 1) := by decide +kernel
theorem dX8_begins_30 : decode cX8_begins 30 = .ok (.ireturn, 1) := by decide +kernel
theorem dX8_begins_31 : decode cX8_begins 31 = .ok (.iinc 2 1, 3) := by decide +kernel
theorem dX8_begins_34 : decode cX8_begins 34 = .ok (.goto (-32), 3) := by decide +kernel
theorem dX8_begins_37 : decode cX8_begins 37 = .ok (.iconst 1, 1) := by decide +kernel
theorem dX8_begins_38 : decode cX8_begins 38 = .ok (.ireturn, 1) := by decide +kernel
def sX8_begins_2 (F : Nat) : Nat → Hp → Nat → Nat → Int32 → Option (Int32 × Hp)
  | 0, _, _, _, _ => none
  | f + 1, h, x0, x1, x2 => cl (hR h x0 3) fun r_1 => br ((hI h r_1 1) ≤ x2) (some ((1 : Int32), h)) (cl (hR h x0 3) fun r_3 => cl (sX9_byteAt h r_3 x2) fun o_4 => cl (sX9_byteAt o_4.2 x1 x2) fun o_5 => br (o_4.1 = o_5.1) (nm (x2 + (1 : Int32)) fun v_7 => sX8_begins_2 F f o_5.2 x0 x1 v_7) (some ((0 : Int32), o_5.2)))
def sX8_begins (F : Nat) (h : Hp) (x0 : Nat) (x1 : Nat) : Option (Int32 × Hp) := sX8_begins_2 F F h x0 x1 (0 : Int32)
set_option maxRecDepth 20000 in
theorem bX8_begins_2 {p : Program} {l : Launch} {e : Env} {s : State} {m : MethodId} {args : Array Value} {below : List Frame} {meth : Method} {c : Code} {X : Ec} {h0 : Hp} {o : Int32 × Hp} {F : Nat} (C : Cx X p s m args meth c RX8 cX8_begins 3 (some .boolean) "begins") : ∀ (f : Nat) {h : Hp} {x0 : Nat} {x1 : Nat} {x2 : Int32} {H : Heap} {locs : List Loc} (k_x0 : hK h x0 = 8) (k_x1 : hK h x1 = 9), Km h0 h → Wx X h H → va_S (aA (eB X)) s.heap H locs → ∀ (ls : Array Slot), lv_has ls 3 [(0, .ref x0), (1, .ref x1), (2, .int x2)] → sX8_begins_2 F f h x0 x1 x2 = some o → W p l e (rm 1 21) s m args below meth c H locs 0 0 (MQ below (QI X h0 o.1 o.2) args s 0 0 (aA (eB X))) (F0 m 2 ls []) := by
  intro f
  induction f with
  | zero =>
    intro h x0 x1 x2 H locs k_x0 k_x1 hkm hW hZ ls hl hE
    rw [sX8_begins_2] at hE
    cases hE
  | succ f ih =>
    intro h x0 x1 x2 H locs k_x0 k_x1 hkm hW hZ ls hl hE
    rw [sX8_begins_2] at hE
    have hk_2 : ∀ (h : Hp) (x0 : Nat) (x1 : Nat) (x2 : Int32) (H : Heap) (locs : List Loc), hK h x0 = 8 → hK h x1 = 9 → Km h0 h → Wx X h H → va_S (aA (eB X)) s.heap H locs → ∀ (ls : Array Slot), lv_has ls 3 [(0, .ref x0), (1, .ref x1), (2, .int x2)] → sX8_begins_2 F f h x0 x1 x2 = some o → W p l e (rm 1 21) s m args below meth c H locs 0 0 (MQ below (QI X h0 o.1 o.2) args s 0 0 (aA (eB X))) (F0 m 2 ls []) := fun h x0 x1 x2 H locs k_x0 k_x1 a b c ls hl hE => ih k_x0 k_x1 a b c ls hl hE
    refine lv_iload_n C.1 C.2.1 dX8_begins_2 rfl (lv_at hl 2 rfl) ?_
    refine lv_aload_n C.1 C.2.1 dX8_begins_3 rfl (lv_at hl 0 rfl) ?_
    obtain ⟨r_1, er_1, hE⟩ := cl_e hE
    refine gf_X8_23 C hW k_x0 er_1 dX8_begins_4 (fun k_r_1 => ?_)
    refine gf_X8_126 C hW k_r_1 dX8_begins_7 ?_
    refine lv_icmp_ge (tgt := 37) C.1 C.2.1 dX8_begins_10 (by decide) (fun c_2 => ?_) (fun c_2 => ?_)
    · have hE := br_p hE c_2
      refine lv_iconst (v := (1 : Int32)) C.1 C.2.1 dX8_begins_37 (by decide) ?_
      exact x_iret C rfl (by decide) hW hZ hkm hE dX8_begins_38
    · have hE := br_n hE c_2
      refine lv_aload_n C.1 C.2.1 dX8_begins_13 rfl (lv_at hl 0 rfl) ?_
      obtain ⟨r_3, er_3, hE⟩ := cl_e hE
      refine gf_X8_23 C hW k_x0 er_3 dX8_begins_14 (fun k_r_3 => ?_)
      refine lv_iload_n C.1 C.2.1 dX8_begins_17 rfl (lv_at hl 2 rfl) ?_
      obtain ⟨o_4, eo_4, hE⟩ := cl_e hE
      refine x_kI (o := o_4) (z_runV (As := [.int x2]) (rest := []) C (ct_X9_byteAt l X k_r_3 eo_4) cw_X8_133 hW hZ k_r_3 (by decide) rfl rfl rfl hl.1 (Nat.le_of_ble_eq_true rfl) rfl dX8_begins_18 ⟨Nat.le_of_ble_eq_true rfl, Nat.le_of_ble_eq_true rfl⟩ ⟨Nat.le_refl _, Nat.le_refl _⟩) hZ (fun _ _ hW km hZ => ?_)
      replace hkm := hkm.tr km
      replace k_x0 := km.at k_x0 (by decide)
      replace k_x1 := km.at k_x1 (by decide)
      refine lv_aload_n C.1 C.2.1 dX8_begins_21 rfl (lv_at hl 1 rfl) ?_
      refine lv_iload_n C.1 C.2.1 dX8_begins_22 rfl (lv_at hl 2 rfl) ?_
      obtain ⟨o_5, eo_5, hE⟩ := cl_e hE
      refine x_kI (o := o_5) (z_runV (As := [.int x2]) (rest := [.int o_4.1]) C (ct_X9_byteAt l X k_x1 eo_5) cw_X8_133 hW hZ k_x1 (by decide) rfl rfl rfl hl.1 (Nat.le_of_ble_eq_true rfl) rfl dX8_begins_23 ⟨Nat.le_of_ble_eq_true rfl, Nat.le_of_ble_eq_true rfl⟩ ⟨Nat.le_refl _, Nat.le_refl _⟩) hZ (fun _ _ hW km hZ => ?_)
      replace hkm := hkm.tr km
      replace k_x0 := km.at k_x0 (by decide)
      replace k_x1 := km.at k_x1 (by decide)
      refine lv_icmp_eq (tgt := 31) C.1 C.2.1 dX8_begins_26 (by decide) (fun c_6 => ?_) (fun c_6 => ?_)
      · have hE := br_p hE c_6
        obtain ⟨v_7, ev_7, hE⟩ := nm_e2 hE
        refine lv_iinc (v := v_7) (lv' := [(2, .int v_7), (0, .ref x0), (1, .ref x1)]) C.1 C.2.1 dX8_begins_31 hl (k := 2) rfl (by rw [ev_7]; rfl) (by decide) rfl (fun ls hl => ?_)
        refine lv_goto (tgt := 2) C.1 C.2.1 dX8_begins_34 (by decide) ?_
        exact hk_2 _ _ _ _ _ _ k_x0 k_x1 hkm hW hZ _ (lv_sub hl [1, 2, 0] rfl) hE
      · have hE := br_n hE c_6
        refine lv_iconst (v := (0 : Int32)) C.1 C.2.1 dX8_begins_29 (by decide) ?_
        exact x_iret C rfl (by decide) hW hZ hkm hE dX8_begins_30
set_option maxRecDepth 20000 in
theorem ct_X8_begins (l : Launch) (X : Ec) (F : Nat) {h : Hp} {x0 : Nat} {x1 : Nat} {o : Int32 × Hp} (k_x0 : hK h x0 = 8) (k_x1 : hK h x1 = 9) (hE : sX8_begins F h x0 x1 = some o) : MetI l yX8_begins cX8_begins 3 (some .boolean) 1 21 X [.ref x0, .ref x1] h o := by
  refine x_met (by decide) (Nat.le_of_ble_eq_true rfl) ?_
  intro p e s m below meth c ls C hl hW hZ
  have hl : lv_has ls 3 [(0, .ref x0), (1, .ref x1)] := hl
  have hkm : Km h h := Km.rf h
  refine lv_iconst (v := (0 : Int32)) C.1 C.2.1 dX8_begins_0 (by decide) ?_
  refine lv_istore_n (lv' := [(2, .int (0 : Int32)), (0, .ref x0), (1, .ref x1)]) C.1 C.2.1 dX8_begins_1 rfl hl (by decide) rfl (fun ls hl => ?_)
  exact bX8_begins_2 C F k_x0 k_x1 hkm hW hZ _ (lv_sub hl [1, 2, 0] rfl) hE
theorem ms_78 : Cond.selects RX8 yX8_begins yX8_begins ∈ W0 := w0_in (List.mem_append_left _ (List.mem_of_getElem? (i := 78) (by decide +kernel))) rfl
theorem m_849 : Cond.instanceMethod yX9_clear ∈ W0 := w0_in (List.mem_append_right _ (List.mem_of_getElem? (i := 849) (by decide +kernel))) rfl
theorem m_850 : Cond.selects RX9 yX9_clear yX9_clear ∈ W0 := w0_in (List.mem_append_right _ (List.mem_of_getElem? (i := 850) (by decide +kernel))) rfl
theorem m_851 : Cond.code yX9_clear cX9_clear 1 none ∈ W0 := w0_in (List.mem_append_right _ (List.mem_of_getElem? (i := 851) (by decide +kernel))) rfl
theorem m_1428 : Cond.instanceMethod yX8_writeMove ∈ W0 := w0_in (List.mem_append_right _ (List.mem_of_getElem? (i := 1428) (by decide +kernel))) rfl
theorem m_1429 : Cond.selects RX8 yX8_writeMove yX8_writeMove ∈ W0 := w0_in (List.mem_append_right _ (List.mem_of_getElem? (i := 1429) (by decide +kernel))) rfl
theorem m_1430 : Cond.code yX8_writeMove cX8_writeMove 9 none ∈ W0 := w0_in (List.mem_append_right _ (List.mem_of_getElem? (i := 1430) (by decide +kernel))) rfl
theorem m_1468 : Cond.methodLink RX8 120 yX9_clear ∈ W0 := w0_in (List.mem_append_right _ (List.mem_of_getElem? (i := 1468) (by decide +kernel))) rfl
theorem m_1469 : Cond.methodLink RX8 123 yX8_writeMove ∈ W0 := w0_in (List.mem_append_right _ (List.mem_of_getElem? (i := 1469) (by decide +kernel))) rfl
theorem m_1470 : Cond.methodLink RX8 129 yX8_begins ∈ W0 := w0_in (List.mem_append_right _ (List.mem_of_getElem? (i := 1470) (by decide +kernel))) rfl
theorem m_1472 : Cond.instanceMethod yX8_begins ∈ W0 := w0_in (List.mem_append_right _ (List.mem_of_getElem? (i := 1472) (by decide +kernel))) rfl
theorem m_1473 : Cond.code yX8_begins cX8_begins 3 (some .boolean) ∈ W0 := w0_in (List.mem_append_right _ (List.mem_of_getElem? (i := 1473) (by decide +kernel))) rfl
theorem cw_X8_129 : cwd RX8 129 yX8_begins cX8_begins 3 (some .boolean) false 1 := ⟨m_1473, m_1470, m_11, ⟨m_1472, ms_78⟩, by decide, by decide, by decide +kernel⟩
theorem cw_X8_120 : cwd RX8 120 yX9_clear cX9_clear 1 none false 0 := ⟨m_851, m_1468, m_2, ⟨m_849, m_850⟩, by decide, by decide, by decide +kernel⟩
theorem cw_X8_123 : cwd RX8 123 yX8_writeMove cX8_writeMove 9 none false 4 := ⟨m_1430, m_1469, m_11, ⟨m_1428, m_1429⟩, by decide, by decide, by decide +kernel⟩
theorem dX8_find_0 : decode cX8_find 0 = .ok (.iconst 0, 1) := by decide +kernel
theorem dX8_find_1 : decode cX8_find 1 = .ok (.istore 4, 2) := by decide +kernel
theorem dX8_find_3 : decode cX8_find 3 = .ok (.iload 4, 2) := by decide +kernel
theorem dX8_find_5 : decode cX8_find 5 = .ok (.iload_n 2, 1) := by decide +kernel
theorem dX8_find_6 : decode cX8_find 6 = .ok (.if_icmp .ge 64, 3) := by decide +kernel
theorem dX8_find_9 : decode cX8_find 9 = .ok (.aload_n 0, 1) := by decide +kernel
theorem dX8_find_10 : decode cX8_find 10 = .ok (.getfield 23, 3) := by decide +kernel
theorem dX8_find_13 : decode cX8_find 13 = .ok (.invokevirtual 120, 3) := by decide +kernel
theorem dX8_find_16 : decode cX8_find 16 = .ok (.aload_n 0, 1) := by decide +kernel
theorem dX8_find_17 : decode cX8_find 17 = .ok (.aload_n 1, 1) := by decide +kernel
theorem dX8_find_18 : decode cX8_find 18 = .ok (.iload_n 2, 1) := by decide +kernel
theorem dX8_find_19 : decode cX8_find 19 = .ok (.iload 4, 2) := by decide +kernel
theorem dX8_find_21 : decode cX8_find 21 = .ok (.aload_n 0, 1) := by decide +kernel
theorem dX8_find_22 : decode cX8_find 22 = .ok (.getfield 23, 3) := by decide +kernel
theorem dX8_find_25 : decode cX8_find 25 = .ok (.invokevirtual 123, 3) := by decide +kernel
theorem dX8_find_28 : decode cX8_find 28 = .ok (.aload_n 3, 1) := by decide +kernel
theorem dX8_find_29 : decode cX8_find 29 = .ok (.getfield 126, 3) := by decide +kernel
theorem dX8_find_32 : decode cX8_find 32 = .ok (.aload_n 0, 1) := by decide +kernel
theorem dX8_find_33 : decode cX8_find 33 = .ok (.getfield 23, 3) := by decide +kernel
theorem dX8_find_36 : decode cX8_find 36 = .ok (.getfield 126, 3) := by decide +kernel
theorem dX8_find_39 : decode cX8_find 39 = .ok (.isub, 1) := by decide +kernel
theorem dX8_find_40 : decode cX8_find 40 = .ok (.istore 5, 2) := by decide +kernel
theorem dX8_find_42 : decode cX8_find 42 = .ok (.iload 5, 2) := by decide +kernel
theorem dX8_find_44 : decode cX8_find 44 = .ok (.ifCond .eq 9, 3) := by decide +kernel
theorem dX8_find_47 : decode cX8_find 47 = .ok (.iload 5, 2) := by decide +kernel
theorem dX8_find_49 : decode cX8_find 49 = .ok (.iconst 1, 1) := by decide +kernel
theorem dX8_find_50 : decode cX8_find 50 = .ok (.if_icmp .ne 14, 3) := by decide +kernel
theorem dX8_find_53 : decode cX8_find 53 = .ok (.aload_n 0, 1) := by decide +kernel
theorem dX8_find_54 : decode cX8_find 54 = .ok (.aload_n 3, 1) := by decide +kernel
theorem dX8_find_55 : decode cX8_find 55 = .ok (.invokevirtual 129, 3) := by decide +kernel
theorem dX8_find_58 : decode cX8_find 58 = .ok (.ifCond .eq 6, 3) := by decide +kernel
theorem dX8_find_61 : decode cX8_find 61 = .ok (.iload 4, 2) := by decide +kernel
theorem dX8_find_63 : decode cX8_find 63 = .ok (.ireturn, 1) := by decide +kernel
theorem dX8_find_64 : decode cX8_find 64 = .ok (.iinc 4 1, 3) := by decide +kernel
theorem dX8_find_67 : decode cX8_find 67 = .ok (.goto (-64), 3) := by decide +kernel
theorem dX8_find_70 : decode cX8_find 70 = .ok (.iconst (-1), 1) := by decide +kernel
theorem dX8_find_71 : decode cX8_find 71 = .ok (.ireturn, 1) := by decide +kernel
def sX8_find_64 (F : Nat) (k_3 : Hp → Nat → Nat → Int32 → Nat → Int32 → Option (Int32 × Hp)) (h : Hp) (x0 : Nat) (x1 : Nat) (x2 : Int32) (x3 : Nat) (x4 : Int32) : Option (Int32 × Hp) := nm (x4 + (1 : Int32)) fun v_1 => k_3 h x0 x1 x2 x3 v_1
def sX8_find_53 (F : Nat) (k_3 : Hp → Nat → Nat → Int32 → Nat → Int32 → Option (Int32 × Hp)) (h : Hp) (x0 : Nat) (x1 : Nat) (x2 : Int32) (x3 : Nat) (x4 : Int32) : Option (Int32 × Hp) := cl (sX8_begins F h x0 x3) fun o_1 => br (o_1.1 = 0) (sX8_find_64 F k_3 o_1.2 x0 x1 x2 x3 x4) (some (x4, o_1.2))
def sX8_find_3 (F : Nat) : Nat → Hp → Nat → Nat → Int32 → Nat → Int32 → Option (Int32 × Hp)
  | 0, _, _, _, _, _, _ => none
  | f + 1, h, x0, x1, x2, x3, x4 => br (x2 ≤ x4) (some ((-1 : Int32), h)) (cl (hR h x0 3) fun r_2 => cl (sX9_clear h r_2) fun o_3 => cl (hR o_3 x0 3) fun r_4 => cl (sX8_writeMove F o_3 x0 x1 x2 x4 r_4) fun o_5 => cl (hR o_5 x0 3) fun r_6 => nm ((hI o_5 x3 1) - (hI o_5 r_6 1)) fun v_7 => br (v_7 = 0) (sX8_find_53 F (sX8_find_3 F f) o_5 x0 x1 x2 x3 x4) (br (v_7 = (1 : Int32)) (sX8_find_53 F (sX8_find_3 F f) o_5 x0 x1 x2 x3 x4) (sX8_find_64 F (sX8_find_3 F f) o_5 x0 x1 x2 x3 x4)))
def sX8_find (F : Nat) (h : Hp) (x0 : Nat) (x1 : Nat) (x2 : Int32) (x3 : Nat) : Option (Int32 × Hp) := sX8_find_3 F F h x0 x1 x2 x3 (0 : Int32)
set_option maxRecDepth 20000 in
theorem bX8_find_64 {p : Program} {l : Launch} {e : Env} {s : State} {m : MethodId} {args : Array Value} {below : List Frame} {meth : Method} {c : Code} {X : Ec} {h0 : Hp} {o : Int32 × Hp} {k_3 : Hp → Nat → Nat → Int32 → Nat → Int32 → Option (Int32 × Hp)} {F : Nat} (C : Cx X p s m args meth c RX8 cX8_find 6 (some .int) "find") (hk_3 : ∀ (h : Hp) (x0 : Nat) (x1 : Nat) (x2 : Int32) (x3 : Nat) (x4 : Int32) (H : Heap) (locs : List Loc), hK h x0 = 8 → hK h x1 = 17 → hK h x3 = 9 → Km h0 h → Wx X h H → va_S (aA (eB X)) s.heap H locs → ∀ (ls : Array Slot), lv_has ls 6 [(0, .ref x0), (1, .ref x1), (2, .int x2), (3, .ref x3), (4, .int x4)] → k_3 h x0 x1 x2 x3 x4 = some o → W p l e (rm 6 135) s m args below meth c H locs 0 0 (MQ below (QI X h0 o.1 o.2) args s 0 0 (aA (eB X))) (F0 m 3 ls [])) {h : Hp} {x0 : Nat} {x1 : Nat} {x2 : Int32} {x3 : Nat} {x4 : Int32} {H : Heap} {locs : List Loc} (k_x0 : hK h x0 = 8) (k_x1 : hK h x1 = 17) (k_x3 : hK h x3 = 9) (hkm : Km h0 h) (hW : Wx X h H) (hZ : va_S (aA (eB X)) s.heap H locs) (ls : Array Slot) (hl : lv_has ls 6 [(0, .ref x0), (1, .ref x1), (2, .int x2), (3, .ref x3), (4, .int x4)]) (hE : sX8_find_64 F k_3 h x0 x1 x2 x3 x4 = some o) : W p l e (rm 6 135) s m args below meth c H locs 0 0 (MQ below (QI X h0 o.1 o.2) args s 0 0 (aA (eB X))) (F0 m 64 ls []) := by
  obtain ⟨v_1, ev_1, hE⟩ := nm_e2 hE
  refine lv_iinc (v := v_1) (lv' := [(4, .int v_1), (0, .ref x0), (1, .ref x1), (2, .int x2), (3, .ref x3)]) C.1 C.2.1 dX8_find_64 hl (k := 4) rfl (by rw [ev_1]; rfl) (by decide) rfl (fun ls hl => ?_)
  refine lv_goto (tgt := 3) C.1 C.2.1 dX8_find_67 (by decide) ?_
  exact hk_3 _ _ _ _ _ _ _ _ k_x0 k_x1 k_x3 hkm hW hZ _ (lv_sub hl [1, 2, 3, 4, 0] rfl) hE
set_option maxRecDepth 20000 in
theorem bX8_find_53 {p : Program} {l : Launch} {e : Env} {s : State} {m : MethodId} {args : Array Value} {below : List Frame} {meth : Method} {c : Code} {X : Ec} {h0 : Hp} {o : Int32 × Hp} {k_3 : Hp → Nat → Nat → Int32 → Nat → Int32 → Option (Int32 × Hp)} {F : Nat} (C : Cx X p s m args meth c RX8 cX8_find 6 (some .int) "find") (hk_3 : ∀ (h : Hp) (x0 : Nat) (x1 : Nat) (x2 : Int32) (x3 : Nat) (x4 : Int32) (H : Heap) (locs : List Loc), hK h x0 = 8 → hK h x1 = 17 → hK h x3 = 9 → Km h0 h → Wx X h H → va_S (aA (eB X)) s.heap H locs → ∀ (ls : Array Slot), lv_has ls 6 [(0, .ref x0), (1, .ref x1), (2, .int x2), (3, .ref x3), (4, .int x4)] → k_3 h x0 x1 x2 x3 x4 = some o → W p l e (rm 6 135) s m args below meth c H locs 0 0 (MQ below (QI X h0 o.1 o.2) args s 0 0 (aA (eB X))) (F0 m 3 ls [])) {h : Hp} {x0 : Nat} {x1 : Nat} {x2 : Int32} {x3 : Nat} {x4 : Int32} {H : Heap} {locs : List Loc} (k_x0 : hK h x0 = 8) (k_x1 : hK h x1 = 17) (k_x3 : hK h x3 = 9) (hkm : Km h0 h) (hW : Wx X h H) (hZ : va_S (aA (eB X)) s.heap H locs) (ls : Array Slot) (hl : lv_has ls 6 [(0, .ref x0), (1, .ref x1), (2, .int x2), (3, .ref x3), (4, .int x4)]) (hE : sX8_find_53 F k_3 h x0 x1 x2 x3 x4 = some o) : W p l e (rm 6 135) s m args below meth c H locs 0 0 (MQ below (QI X h0 o.1 o.2) args s 0 0 (aA (eB X))) (F0 m 53 ls []) := by
  refine lv_aload_n C.1 C.2.1 dX8_find_53 rfl (lv_at hl 0 rfl) ?_
  refine lv_aload_n C.1 C.2.1 dX8_find_54 rfl (lv_at hl 3 rfl) ?_
  obtain ⟨o_1, eo_1, hE⟩ := cl_e hE
  refine x_kI (o := o_1) (z_runV (As := [.ref x3]) (rest := []) C (ct_X8_begins l X F k_x0 k_x3 eo_1) cw_X8_129 hW hZ k_x0 (by decide) rfl rfl rfl hl.1 (Nat.le_of_ble_eq_true rfl) rfl dX8_find_55 ⟨Nat.le_of_ble_eq_true rfl, Nat.le_of_ble_eq_true rfl⟩ ⟨Nat.le_refl _, Nat.le_refl _⟩) hZ (fun _ _ hW km hZ => ?_)
  replace hkm := hkm.tr km
  replace k_x0 := km.at k_x0 (by decide)
  replace k_x1 := km.at k_x1 (by decide)
  replace k_x3 := km.at k_x3 (by decide)
  refine lv_if_eq (tgt := 64) C.1 C.2.1 dX8_find_58 (by decide) (fun c_2 => ?_) (fun c_2 => ?_)
  · have hE := br_p hE c_2
    exact bX8_find_64 C hk_3 k_x0 k_x1 k_x3 hkm hW hZ _ (lv_sub hl [0, 1, 2, 3, 4] rfl) hE
  · have hE := br_n hE c_2
    refine lv_iload C.1 C.2.1 dX8_find_61 (lv_at hl 4 rfl) ?_
    exact x_iret C rfl rfl hW hZ hkm hE dX8_find_63
set_option maxRecDepth 20000 in
theorem bX8_find_3 {p : Program} {l : Launch} {e : Env} {s : State} {m : MethodId} {args : Array Value} {below : List Frame} {meth : Method} {c : Code} {X : Ec} {h0 : Hp} {o : Int32 × Hp} {F : Nat} (C : Cx X p s m args meth c RX8 cX8_find 6 (some .int) "find") : ∀ (f : Nat) {h : Hp} {x0 : Nat} {x1 : Nat} {x2 : Int32} {x3 : Nat} {x4 : Int32} {H : Heap} {locs : List Loc} (k_x0 : hK h x0 = 8) (k_x1 : hK h x1 = 17) (k_x3 : hK h x3 = 9), Km h0 h → Wx X h H → va_S (aA (eB X)) s.heap H locs → ∀ (ls : Array Slot), lv_has ls 6 [(0, .ref x0), (1, .ref x1), (2, .int x2), (3, .ref x3), (4, .int x4)] → sX8_find_3 F f h x0 x1 x2 x3 x4 = some o → W p l e (rm 6 135) s m args below meth c H locs 0 0 (MQ below (QI X h0 o.1 o.2) args s 0 0 (aA (eB X))) (F0 m 3 ls []) := by
  intro f
  induction f with
  | zero =>
    intro h x0 x1 x2 x3 x4 H locs k_x0 k_x1 k_x3 hkm hW hZ ls hl hE
    rw [sX8_find_3] at hE
    cases hE
  | succ f ih =>
    intro h x0 x1 x2 x3 x4 H locs k_x0 k_x1 k_x3 hkm hW hZ ls hl hE
    rw [sX8_find_3] at hE
    have hk_3 : ∀ (h : Hp) (x0 : Nat) (x1 : Nat) (x2 : Int32) (x3 : Nat) (x4 : Int32) (H : Heap) (locs : List Loc), hK h x0 = 8 → hK h x1 = 17 → hK h x3 = 9 → Km h0 h → Wx X h H → va_S (aA (eB X)) s.heap H locs → ∀ (ls : Array Slot), lv_has ls 6 [(0, .ref x0), (1, .ref x1), (2, .int x2), (3, .ref x3), (4, .int x4)] → sX8_find_3 F f h x0 x1 x2 x3 x4 = some o → W p l e (rm 6 135) s m args below meth c H locs 0 0 (MQ below (QI X h0 o.1 o.2) args s 0 0 (aA (eB X))) (F0 m 3 ls []) := fun h x0 x1 x2 x3 x4 H locs k_x0 k_x1 k_x3 a b c ls hl hE => ih k_x0 k_x1 k_x3 a b c ls hl hE
    refine lv_iload C.1 C.2.1 dX8_find_3 (lv_at hl 4 rfl) ?_
    refine lv_iload_n C.1 C.2.1 dX8_find_5 rfl (lv_at hl 2 rfl) ?_
    refine lv_icmp_ge (tgt := 70) C.1 C.2.1 dX8_find_6 (by decide) (fun c_1 => ?_) (fun c_1 => ?_)
    · have hE := br_p hE c_1
      refine lv_iconst (v := (-1 : Int32)) C.1 C.2.1 dX8_find_70 (by decide) ?_
      exact x_iret C rfl rfl hW hZ hkm hE dX8_find_71
    · have hE := br_n hE c_1
      refine lv_aload_n C.1 C.2.1 dX8_find_9 rfl (lv_at hl 0 rfl) ?_
      obtain ⟨r_2, er_2, hE⟩ := cl_e hE
      refine gf_X8_23 C hW k_x0 er_2 dX8_find_10 (fun k_r_2 => ?_)
      obtain ⟨o_3, eo_3, hE⟩ := cl_e hE
      refine x_kV (o := o_3) (z_runV (As := []) (rest := []) C (ct_X9_clear l X k_r_2 eo_3) cw_X8_120 hW hZ k_r_2 (by decide) rfl rfl rfl hl.1 (Nat.le_of_ble_eq_true rfl) rfl dX8_find_13 ⟨Nat.le_of_ble_eq_true rfl, Nat.le_of_ble_eq_true rfl⟩ ⟨Nat.le_refl _, Nat.le_refl _⟩) hZ (fun _ _ hW km hZ => ?_)
      replace hkm := hkm.tr km
      replace k_x0 := km.at k_x0 (by decide)
      replace k_x1 := km.at k_x1 (by decide)
      replace k_x3 := km.at k_x3 (by decide)
      refine lv_aload_n C.1 C.2.1 dX8_find_16 rfl (lv_at hl 0 rfl) ?_
      refine lv_aload_n C.1 C.2.1 dX8_find_17 rfl (lv_at hl 1 rfl) ?_
      refine lv_iload_n C.1 C.2.1 dX8_find_18 rfl (lv_at hl 2 rfl) ?_
      refine lv_iload C.1 C.2.1 dX8_find_19 (lv_at hl 4 rfl) ?_
      refine lv_aload_n C.1 C.2.1 dX8_find_21 rfl (lv_at hl 0 rfl) ?_
      obtain ⟨r_4, er_4, hE⟩ := cl_e hE
      refine gf_X8_23 C hW k_x0 er_4 dX8_find_22 (fun k_r_4 => ?_)
      obtain ⟨o_5, eo_5, hE⟩ := cl_e hE
      refine x_kV (o := o_5) (z_runV (As := [.ref x1, .int x2, .int x4, .ref r_4]) (rest := []) C (ct_X8_writeMove l X F k_x0 k_x1 k_r_4 eo_5) cw_X8_123 hW hZ k_x0 (by decide) rfl rfl rfl hl.1 (Nat.le_of_ble_eq_true rfl) rfl dX8_find_25 ⟨Nat.le_of_ble_eq_true rfl, Nat.le_of_ble_eq_true rfl⟩ ⟨Nat.le_refl _, Nat.le_refl _⟩) hZ (fun _ _ hW km hZ => ?_)
      replace hkm := hkm.tr km
      replace k_x0 := km.at k_x0 (by decide)
      replace k_x1 := km.at k_x1 (by decide)
      replace k_x3 := km.at k_x3 (by decide)
      refine lv_aload_n C.1 C.2.1 dX8_find_28 rfl (lv_at hl 3 rfl) ?_
      refine gf_X8_126 C hW k_x3 dX8_find_29 ?_
      refine lv_aload_n C.1 C.2.1 dX8_find_32 rfl (lv_at hl 0 rfl) ?_
      obtain ⟨r_6, er_6, hE⟩ := cl_e hE
      refine gf_X8_23 C hW k_x0 er_6 dX8_find_33 (fun k_r_6 => ?_)
      refine gf_X8_126 C hW k_r_6 dX8_find_36 ?_
      refine lv_isub C.1 C.2.1 dX8_find_39 ?_
      obtain ⟨v_7, ev_7, hE⟩ := nm_e2 hE
      refine x_nmI ev_7 ?_
      refine lv_istore (lv' := [(5, .int v_7), (0, .ref x0), (1, .ref x1), (2, .int x2), (3, .ref x3), (4, .int x4)]) C.1 C.2.1 dX8_find_40 hl (by decide) rfl (fun ls hl => ?_)
      refine lv_iload C.1 C.2.1 dX8_find_42 (lv_at hl 0 rfl) ?_
      refine lv_if_eq (tgt := 53) C.1 C.2.1 dX8_find_44 (by decide) (fun c_8 => ?_) (fun c_8 => ?_)
      · have hE := br_p hE c_8
        exact bX8_find_53 C hk_3 k_x0 k_x1 k_x3 hkm hW hZ _ (lv_sub hl [1, 2, 3, 4, 5] rfl) hE
      · have hE := br_n hE c_8
        refine lv_iload C.1 C.2.1 dX8_find_47 (lv_at hl 0 rfl) ?_
        refine lv_iconst (v := (1 : Int32)) C.1 C.2.1 dX8_find_49 (by decide) ?_
        refine lv_icmp_ne (tgt := 64) C.1 C.2.1 dX8_find_50 (by decide) (fun c_9 => ?_) (fun c_9 => ?_)
        · have hE := br_n hE c_9
          exact bX8_find_64 C hk_3 k_x0 k_x1 k_x3 hkm hW hZ _ (lv_sub hl [1, 2, 3, 4, 5] rfl) hE
        · have hE := br_p hE c_9
          exact bX8_find_53 C hk_3 k_x0 k_x1 k_x3 hkm hW hZ _ (lv_sub hl [1, 2, 3, 4, 5] rfl) hE
set_option maxRecDepth 20000 in
theorem ct_X8_find (l : Launch) (X : Ec) (F : Nat) {h : Hp} {x0 : Nat} {x1 : Nat} {x2 : Int32} {x3 : Nat} {o : Int32 × Hp} (k_x0 : hK h x0 = 8) (k_x1 : hK h x1 = 17) (k_x3 : hK h x3 = 9) (hE : sX8_find F h x0 x1 x2 x3 = some o) : MetI l yX8_find cX8_find 6 (some .int) 6 135 X [.ref x0, .ref x1, .int x2, .ref x3] h o := by
  refine x_met (by decide) (Nat.le_of_ble_eq_true rfl) ?_
  intro p e s m below meth c ls C hl hW hZ
  have hl : lv_has ls 6 [(0, .ref x0), (1, .ref x1), (2, .int x2), (3, .ref x3)] := hl
  have hkm : Km h h := Km.rf h
  refine lv_iconst (v := (0 : Int32)) C.1 C.2.1 dX8_find_0 (by decide) ?_
  refine lv_istore (lv' := [(4, .int (0 : Int32)), (0, .ref x0), (1, .ref x1), (2, .int x2), (3, .ref x3)]) C.1 C.2.1 dX8_find_1 hl (by decide) rfl (fun ls hl => ?_)
  exact bX8_find_3 C F k_x0 k_x1 k_x3 hkm hW hZ _ (lv_sub hl [1, 2, 3, 4, 0] rfl) hE
theorem dX8_isWhole_0 : decode cX8_isWhole 0 = .ok (.aload_n 1, 1) := by decide +kernel
theorem dX8_isWhole_1 : decode cX8_isWhole 1 = .ok (.getfield 126, 3) := by decide +kernel
theorem dX8_isWhole_4 : decode cX8_isWhole 4 = .ok (.aload_n 0, 1) := by decide +kernel
theorem dX8_isWhole_5 : decode cX8_isWhole 5 = .ok (.getfield 23, 3) := by decide +kernel
theorem dX8_isWhole_8 : decode cX8_isWhole 8 = .ok (.getfield 126, 3) := by decide +kernel
theorem dX8_isWhole_11 : decode cX8_isWhole 11 = .ok (.if_icmp .ne 7, 3) := by decide +kernel
theorem dX8_isWhole_14 : decode cX8_isWhole 14 = .ok (.iconst 1, 1) := by decide +kernel
theorem dX8_isWhole_15 : decode cX8_isWhole 15 = .ok (.goto 4, 3) := by decide +kernel
theorem dX8_isWhole_18 : decode cX8_isWhole 18 = .ok (.iconst 0, 1) := by decide +kernel
theorem dX8_isWhole_19 : decode cX8_isWhole 19 = .ok (.ireturn, 1) := by decide +kernel
def sX8_isWhole_19 (h : Hp) (t0 : Int32) : Option (Int32 × Hp) := gd (t0 &&& 1 = t0) <| some (t0, h)
def sX8_isWhole (h : Hp) (x0 : Nat) (x1 : Nat) : Option (Int32 × Hp) := cl (hR h x0 3) fun r_1 => br ((hI h x1 1) = (hI h r_1 1)) (sX8_isWhole_19  h (1 : Int32)) (sX8_isWhole_19  h (0 : Int32))
set_option maxRecDepth 20000 in
theorem bX8_isWhole_19 {p : Program} {l : Launch} {e : Env} {s : State} {m : MethodId} {args : Array Value} {below : List Frame} {meth : Method} {c : Code} {X : Ec} {h0 : Hp} {o : Int32 × Hp} (C : Cx X p s m args meth c RX8 cX8_isWhole 2 (some .boolean) "isWhole") {h : Hp} {t0 : Int32} {H : Heap} {locs : List Loc} (hkm : Km h0 h) (hW : Wx X h H) (hZ : va_S (aA (eB X)) s.heap H locs) (ls : Array Slot) (hl : lv_has ls 2 []) (hE : sX8_isWhole_19 h  t0 = some o) : W p l e (rm 0 0) s m args below meth c H locs 0 0 (MQ below (QI X h0 o.1 o.2) args s 0 0 (aA (eB X))) (F0 m 19 ls [.int t0]) := by
  obtain ⟨g_1, hE⟩ := gd_e hE
  exact x_iret C rfl (narB g_1) hW hZ hkm hE dX8_isWhole_19
set_option maxRecDepth 20000 in
theorem ct_X8_isWhole (l : Launch) (X : Ec) {h : Hp} {x0 : Nat} {x1 : Nat} {o : Int32 × Hp} (k_x0 : hK h x0 = 8) (k_x1 : hK h x1 = 9) (hE : sX8_isWhole h x0 x1 = some o) : MetI l yX8_isWhole cX8_isWhole 2 (some .boolean) 0 0 X [.ref x0, .ref x1] h o := by
  refine x_met (by decide) (Nat.le_of_ble_eq_true rfl) ?_
  intro p e s m below meth c ls C hl hW hZ
  have hl : lv_has ls 2 [(0, .ref x0), (1, .ref x1)] := hl
  have hkm : Km h h := Km.rf h
  refine lv_aload_n C.1 C.2.1 dX8_isWhole_0 rfl (lv_at hl 1 rfl) ?_
  refine gf_X8_126 C hW k_x1 dX8_isWhole_1 ?_
  refine lv_aload_n C.1 C.2.1 dX8_isWhole_4 rfl (lv_at hl 0 rfl) ?_
  obtain ⟨r_1, er_1, hE⟩ := cl_e hE
  refine gf_X8_23 C hW k_x0 er_1 dX8_isWhole_5 (fun k_r_1 => ?_)
  refine gf_X8_126 C hW k_r_1 dX8_isWhole_8 ?_
  refine lv_icmp_ne (tgt := 18) C.1 C.2.1 dX8_isWhole_11 (by decide) (fun c_2 => ?_) (fun c_2 => ?_)
  · have hE := br_n hE c_2
    refine lv_iconst (v := (0 : Int32)) C.1 C.2.1 dX8_isWhole_18 (by decide) ?_
    exact bX8_isWhole_19 C hkm hW hZ _ (lv_sub hl [] rfl) hE
  · have hE := br_p hE c_2
    refine lv_iconst (v := (1 : Int32)) C.1 C.2.1 dX8_isWhole_14 (by decide) ?_
    refine lv_goto (tgt := 19) C.1 C.2.1 dX8_isWhole_15 (by decide) ?_
    exact bX8_isWhole_19 C hkm hW hZ _ (lv_sub hl [] rfl) hE
theorem m_296 : Cond.fieldLink RX6 52 (TX3 5).1 (TX3 5).2.1 (TX3 5).2.2.1 ∈ W0 := w0_in (List.mem_append_right _ (List.mem_of_getElem? (i := 296) (by decide +kernel))) rfl
section
variable {p : Program} {l : Launch} {e : Env} {R : Room} {s : State} {m : MethodId} {args : Array Value} {below : List Frame} {meth : Method} {c : Code} {H : Heap} {locs : List Loc} {cells slots : Nat} {Q : State → Prop}
variable {cc : ByteArray} {pc : Nat} {ls : Array Slot} {rest : List Value} {X : Ec} {h h1 : Hp} {nL : Nat} {rt : Option FieldType} {mn : String}
theorem gf_X6_12 {a r : Nat} (C : Cx X p s m args meth c RX6 cc nL rt mn) (hW : Wx X h H) (ha : hK h a = 6) (hr : hR h a 3 = some r) (hdg : decode cc pc = .ok (.getfield 12, 3)) (kk : hK h r = 3 → W p l e R s m args below meth c H locs cells slots Q (F0 m (pc + 3) ls (.ref r :: rest))) : W p l e R s m args below meth c H locs cells slots Q (F0 m pc ls (.ref a :: rest)) :=
  y_getr C hW ha i_X6 (by decide) rfl (by decide) m_425 rfl rfl hr hdg kk
theorem gf_X6_52 {a : Nat} (C : Cx X p s m args meth c RX6 cc nL rt mn) (hW : Wx X h H) (ha : hK h a = 3) (hdg : decode cc pc = .ok (.getfield 52, 3)) (kk : W p l e R s m args below meth c H locs cells slots Q (F0 m (pc + 3) ls (.int (hI h a 5) :: rest))) : W p l e R s m args below meth c H locs cells slots Q (F0 m pc ls (.ref a :: rest)) :=
  y_geti C hW ha i_X3 (by decide) rfl (by decide) m_296 rfl hdg kk
end
theorem dX6_takenIn_0 : decode cX6_takenIn 0 = .ok (.iload_n 1, 1) := by decide +kernel
theorem dX6_takenIn_1 : decode cX6_takenIn 1 = .ok (.bipush 16, 2) := by decide +kernel
theorem dX6_takenIn_3 : decode cX6_takenIn 3 = .ok (.ishr, 1) := by decide +kernel
theorem dX6_takenIn_4 : decode cX6_takenIn 4 = .ok (.bipush 15, 2) := by decide +kernel
theorem dX6_takenIn_6 : decode cX6_takenIn 6 = .ok (.iand, 1) := by decide +kernel
theorem dX6_takenIn_7 : decode cX6_takenIn 7 = .ok (.istore_n 2, 1) := by decide +kernel
theorem dX6_takenIn_8 : decode cX6_takenIn 8 = .ok (.iload_n 2, 1) := by decide +kernel
theorem dX6_takenIn_9 : decode cX6_takenIn 9 = .ok (.bipush 15, 2) := by decide +kernel
theorem dX6_takenIn_11 : decode cX6_takenIn 11 = .ok (.if_icmp .ne 7, 3) := by decide +kernel
theorem dX6_takenIn_14 : decode cX6_takenIn 14 = .ok (.iconst (-1), 1) := by decide +kernel
theorem dX6_takenIn_15 : decode cX6_takenIn 15 = .ok (.goto 16, 3) := by decide +kernel
theorem dX6_takenIn_18 : decode cX6_takenIn 18 = .ok (.iconst 2, 1) := by decide +kernel
theorem dX6_takenIn_19 : decode cX6_takenIn 19 = .ok (.iload_n 2, 1) := by decide +kernel
theorem dX6_takenIn_20 : decode cX6_takenIn 20 = .ok (.imul, 1) := by decide +kernel
theorem dX6_takenIn_21 : decode cX6_takenIn 21 = .ok (.iconst 1, 1) := by decide +kernel
theorem dX6_takenIn_22 : decode cX6_takenIn 22 = .ok (.iadd, 1) := by decide +kernel
theorem dX6_takenIn_23 : decode cX6_takenIn 23 = .ok (.aload_n 0, 1) := by decide +kernel
theorem dX6_takenIn_24 : decode cX6_takenIn 24 = .ok (.getfield 12, 3) := by decide +kernel
theorem dX6_takenIn_27 : decode cX6_takenIn 27 = .ok (.getfield 52, 3) := by decide +kernel
theorem dX6_takenIn_30 : decode cX6_takenIn 30 = .ok (.isub, 1) := by decide +kernel
theorem dX6_takenIn_31 : decode cX6_takenIn 31 = .ok (.ireturn, 1) := by decide +kernel
def sX6_takenIn_31 (h : Hp) (t0 : Int32) : Option (Int32 × Hp) := some (t0, h)
def sX6_takenIn (h : Hp) (x0 : Nat) (x1 : Int32) : Option (Int32 × Hp) := nm ((x1 >>> ((16 : Int32) &&& 31)) &&& (15 : Int32)) fun v_1 => br (v_1 = (15 : Int32)) (sX6_takenIn_31  h (-1 : Int32)) (cl (hR h x0 3) fun r_3 => sX6_takenIn_31  h ((((2 : Int32) * v_1) + (1 : Int32)) - (hI h r_3 5)))
set_option maxRecDepth 20000 in
theorem bX6_takenIn_31 {p : Program} {l : Launch} {e : Env} {s : State} {m : MethodId} {args : Array Value} {below : List Frame} {meth : Method} {c : Code} {X : Ec} {h0 : Hp} {o : Int32 × Hp} (C : Cx X p s m args meth c RX6 cX6_takenIn 3 (some .int) "takenIn") {h : Hp} {t0 : Int32} {H : Heap} {locs : List Loc} (hkm : Km h0 h) (hW : Wx X h H) (hZ : va_S (aA (eB X)) s.heap H locs) (ls : Array Slot) (hl : lv_has ls 3 []) (hE : sX6_takenIn_31 h  t0 = some o) : W p l e (rm 0 0) s m args below meth c H locs 0 0 (MQ below (QI X h0 o.1 o.2) args s 0 0 (aA (eB X))) (F0 m 31 ls [.int t0]) := by
  exact x_iret C rfl rfl hW hZ hkm hE dX6_takenIn_31
set_option maxRecDepth 20000 in
theorem ct_X6_takenIn (l : Launch) (X : Ec) {h : Hp} {x0 : Nat} {x1 : Int32} {o : Int32 × Hp} (k_x0 : hK h x0 = 6) (hE : sX6_takenIn h x0 x1 = some o) : MetI l yX6_takenIn cX6_takenIn 3 (some .int) 0 0 X [.ref x0, .int x1] h o := by
  refine x_met (by decide) (Nat.le_of_ble_eq_true rfl) ?_
  intro p e s m below meth c ls C hl hW hZ
  have hl : lv_has ls 3 [(0, .ref x0), (1, .int x1)] := hl
  have hkm : Km h h := Km.rf h
  refine lv_iload_n C.1 C.2.1 dX6_takenIn_0 rfl (lv_at hl 1 rfl) ?_
  refine lv_bipush (v := (16 : Int32)) C.1 C.2.1 dX6_takenIn_1 (by decide) ?_
  refine lv_ishr C.1 C.2.1 dX6_takenIn_3 ?_
  refine lv_bipush (v := (15 : Int32)) C.1 C.2.1 dX6_takenIn_4 (by decide) ?_
  refine lv_iand C.1 C.2.1 dX6_takenIn_6 ?_
  obtain ⟨v_1, ev_1, hE⟩ := nm_e2 hE
  refine x_nmI ev_1 ?_
  refine lv_istore_n (lv' := [(2, .int v_1), (0, .ref x0), (1, .int x1)]) C.1 C.2.1 dX6_takenIn_7 rfl hl (by decide) rfl (fun ls hl => ?_)
  refine lv_iload_n C.1 C.2.1 dX6_takenIn_8 rfl (lv_at hl 0 rfl) ?_
  refine lv_bipush (v := (15 : Int32)) C.1 C.2.1 dX6_takenIn_9 (by decide) ?_
  refine lv_icmp_ne (tgt := 18) C.1 C.2.1 dX6_takenIn_11 (by decide) (fun c_2 => ?_) (fun c_2 => ?_)
  · have hE := br_n hE c_2
    refine lv_iconst (v := (2 : Int32)) C.1 C.2.1 dX6_takenIn_18 (by decide) ?_
    refine lv_iload_n C.1 C.2.1 dX6_takenIn_19 rfl (lv_at hl 0 rfl) ?_
    refine lv_imul C.1 C.2.1 dX6_takenIn_20 ?_
    refine lv_iconst (v := (1 : Int32)) C.1 C.2.1 dX6_takenIn_21 (by decide) ?_
    refine lv_iadd C.1 C.2.1 dX6_takenIn_22 ?_
    refine lv_aload_n C.1 C.2.1 dX6_takenIn_23 rfl (lv_at hl 1 rfl) ?_
    obtain ⟨r_3, er_3, hE⟩ := cl_e hE
    refine gf_X6_12 C hW k_x0 er_3 dX6_takenIn_24 (fun k_r_3 => ?_)
    refine gf_X6_52 C hW k_r_3 dX6_takenIn_27 ?_
    refine lv_isub C.1 C.2.1 dX6_takenIn_30 ?_
    exact bX6_takenIn_31 C hkm hW hZ _ (lv_sub hl [] rfl) hE
  · have hE := br_p hE c_2
    refine lv_iconst (v := (-1 : Int32)) C.1 C.2.1 dX6_takenIn_14 (by decide) ?_
    refine lv_goto (tgt := 31) C.1 C.2.1 dX6_takenIn_15 (by decide) ?_
    exact bX6_takenIn_31 C hkm hW hZ _ (lv_sub hl [] rfl) hE
theorem ms_83 : Cond.selects RX6 yX6_takenIn yX6_takenIn ∈ W0 := w0_in (List.mem_append_left _ (List.mem_of_getElem? (i := 83) (by decide +kernel))) rfl
theorem m_12 : Cond.initialized RX6 ∈ W0 := w0_in (List.mem_append_right _ (List.mem_of_getElem? (i := 12) (by decide +kernel))) rfl
theorem m_88 : Cond.fieldLink RX6 93 (TX1 4).1 (TX1 4).2.1 (TX1 4).2.2.1 ∈ W0 := w0_in (List.mem_append_right _ (List.mem_of_getElem? (i := 88) (by decide +kernel))) rfl
theorem m_1544 : Cond.methodLink RX6 45 yX3_copyFrom ∈ W0 := w0_in (List.mem_append_right _ (List.mem_of_getElem? (i := 1544) (by decide +kernel))) rfl
theorem m_1566 : Cond.methodLink RX6 135 yX6_takenIn ∈ W0 := w0_in (List.mem_append_right _ (List.mem_of_getElem? (i := 1566) (by decide +kernel))) rfl
theorem m_1568 : Cond.instanceMethod yX6_takenIn ∈ W0 := w0_in (List.mem_append_right _ (List.mem_of_getElem? (i := 1568) (by decide +kernel))) rfl
theorem m_1569 : Cond.code yX6_takenIn cX6_takenIn 3 (some .int) ∈ W0 := w0_in (List.mem_append_right _ (List.mem_of_getElem? (i := 1569) (by decide +kernel))) rfl
theorem m_1570 : Cond.methodLink RX6 138 yX3_put ∈ W0 := w0_in (List.mem_append_right _ (List.mem_of_getElem? (i := 1570) (by decide +kernel))) rfl
section
variable {p : Program} {l : Launch} {e : Env} {R : Room} {s : State} {m : MethodId} {args : Array Value} {below : List Frame} {meth : Method} {c : Code} {H : Heap} {locs : List Loc} {cells slots : Nat} {Q : State → Prop}
variable {cc : ByteArray} {pc : Nat} {ls : Array Slot} {rest : List Value} {X : Ec} {h h1 : Hp} {nL : Nat} {rt : Option FieldType} {mn : String}
theorem gf_X6_25 {a r : Nat} (C : Cx X p s m args meth c RX6 cc nL rt mn) (hW : Wx X h H) (ha : hK h a = 6) (hr : hR h a 0 = some r) (hdg : decode cc pc = .ok (.getfield 25, 3)) (kk : hK h r = 1 → W p l e R s m args below meth c H locs cells slots Q (F0 m (pc + 3) ls (.ref r :: rest))) : W p l e R s m args below meth c H locs cells slots Q (F0 m pc ls (.ref a :: rest)) :=
  y_getr C hW ha i_X6 (by decide) rfl (by decide) m_422 rfl rfl hr hdg kk
theorem gf_X6_93 {a : Nat} (C : Cx X p s m args meth c RX6 cc nL rt mn) (hW : Wx X h H) (ha : hK h a = 1) (hdg : decode cc pc = .ok (.getfield 93, 3)) (kk : W p l e R s m args below meth c H locs cells slots Q (F0 m (pc + 3) ls (.int (hI h a 4) :: rest))) : W p l e R s m args below meth c H locs cells slots Q (F0 m pc ls (.ref a :: rest)) :=
  y_geti C hW ha i_X1 (by decide) rfl (by decide) m_88 rfl hdg kk
end
theorem cw_X6_45 : cwd RX6 45 yX3_copyFrom cX3_copyFrom 3 none false 1 := ⟨m_1255, m_1544, m_8, ⟨m_1253, m_1254⟩, by decide, by decide, by decide +kernel⟩
theorem cw_X6_135 : cwd RX6 135 yX6_takenIn cX6_takenIn 3 (some .int) false 1 := ⟨m_1569, m_1566, m_12, ⟨m_1568, ms_83⟩, by decide, by decide, by decide +kernel⟩
theorem cw_X6_138 : cwd RX6 138 yX3_put cX3_put 7 none false 3 := ⟨m_987, m_1570, m_8, ⟨m_985, m_986⟩, by decide, by decide, by decide +kernel⟩
theorem dX6_lay_0 : decode cX6_lay 0 = .ok (.aload_n 1, 1) := by decide +kernel
theorem dX6_lay_1 : decode cX6_lay 1 = .ok (.aload_n 0, 1) := by decide +kernel
theorem dX6_lay_2 : decode cX6_lay 2 = .ok (.getfield 12, 3) := by decide +kernel
theorem dX6_lay_5 : decode cX6_lay 5 = .ok (.invokevirtual 45, 3) := by decide +kernel
theorem dX6_lay_8 : decode cX6_lay 8 = .ok (.aload_n 1, 1) := by decide +kernel
theorem dX6_lay_9 : decode cX6_lay 9 = .ok (.iload_n 2, 1) := by decide +kernel
theorem dX6_lay_10 : decode cX6_lay 10 = .ok (.bipush 6, 2) := by decide +kernel
theorem dX6_lay_12 : decode cX6_lay 12 = .ok (.ishr, 1) := by decide +kernel
theorem dX6_lay_13 : decode cX6_lay 13 = .ok (.bipush 63, 2) := by decide +kernel
theorem dX6_lay_15 : decode cX6_lay 15 = .ok (.iand, 1) := by decide +kernel
theorem dX6_lay_16 : decode cX6_lay 16 = .ok (.aload_n 0, 1) := by decide +kernel
theorem dX6_lay_17 : decode cX6_lay 17 = .ok (.iload_n 2, 1) := by decide +kernel
theorem dX6_lay_18 : decode cX6_lay 18 = .ok (.invokevirtual 135, 3) := by decide +kernel
theorem dX6_lay_21 : decode cX6_lay 21 = .ok (.aload_n 0, 1) := by decide +kernel
theorem dX6_lay_22 : decode cX6_lay 22 = .ok (.getfield 25, 3) := by decide +kernel
theorem dX6_lay_25 : decode cX6_lay 25 = .ok (.getfield 93, 3) := by decide +kernel
theorem dX6_lay_28 : decode cX6_lay 28 = .ok (.invokevirtual 138, 3) := by decide +kernel
theorem dX6_lay_31 : decode cX6_lay 31 = .ok (.aload_n 1, 1) := by decide +kernel
theorem dX6_lay_32 : decode cX6_lay 32 = .ok (.iload_n 2, 1) := by decide +kernel
theorem dX6_lay_33 : decode cX6_lay 33 = .ok (.bipush 63, 2) := by decide +kernel
theorem dX6_lay_35 : decode cX6_lay 35 = .ok (.iand, 1) := by decide +kernel
theorem dX6_lay_36 : decode cX6_lay 36 = .ok (.iconst 2, 1) := by decide +kernel
theorem dX6_lay_37 : decode cX6_lay 37 = .ok (.iload_n 2, 1) := by decide +kernel
theorem dX6_lay_38 : decode cX6_lay 38 = .ok (.bipush 12, 2) := by decide +kernel
theorem dX6_lay_40 : decode cX6_lay 40 = .ok (.ishr, 1) := by decide +kernel
theorem dX6_lay_41 : decode cX6_lay 41 = .ok (.bipush 15, 2) := by decide +kernel
theorem dX6_lay_43 : decode cX6_lay 43 = .ok (.iand, 1) := by decide +kernel
theorem dX6_lay_44 : decode cX6_lay 44 = .ok (.imul, 1) := by decide +kernel
theorem dX6_lay_45 : decode cX6_lay 45 = .ok (.aload_n 0, 1) := by decide +kernel
theorem dX6_lay_46 : decode cX6_lay 46 = .ok (.getfield 12, 3) := by decide +kernel
theorem dX6_lay_49 : decode cX6_lay 49 = .ok (.getfield 52, 3) := by decide +kernel
theorem dX6_lay_52 : decode cX6_lay 52 = .ok (.iadd, 1) := by decide +kernel
theorem dX6_lay_53 : decode cX6_lay 53 = .ok (.aload_n 0, 1) := by decide +kernel
theorem dX6_lay_54 : decode cX6_lay 54 = .ok (.getfield 25, 3) := by decide +kernel
theorem dX6_lay_57 : decode cX6_lay 57 = .ok (.getfield 93, 3) := by decide +kernel
theorem dX6_lay_60 : decode cX6_lay 60 = .ok (.invokevirtual 138, 3) := by decide +kernel
theorem dX6_lay_63 : decode cX6_lay 63 = .ok (.return_, 1) := by decide +kernel
def sX6_lay (F : Nat) (h : Hp) (x0 : Nat) (x1 : Nat) (x2 : Int32) : Option (Hp) := cl (hR h x0 3) fun r_1 => cl (sX3_copyFrom F h x1 r_1) fun o_2 => cl (sX6_takenIn o_2 x0 x2) fun o_3 => cl (hR o_3.2 x0 0) fun r_4 => cl (sX3_put o_3.2 x1 ((x2 >>> ((6 : Int32) &&& 31)) &&& (63 : Int32)) o_3.1 (hI o_3.2 r_4 4)) fun o_5 => cl (hR o_5 x0 3) fun r_6 => cl (hR o_5 x0 0) fun r_7 => cl (sX3_put o_5 x1 (x2 &&& (63 : Int32)) (((2 : Int32) * ((x2 >>> ((12 : Int32) &&& 31)) &&& (15 : Int32))) + (hI o_5 r_6 5)) (hI o_5 r_7 4)) fun o_8 => some o_8
set_option maxRecDepth 20000 in
theorem ct_X6_lay (l : Launch) (X : Ec) (F : Nat) {h : Hp} {x0 : Nat} {x1 : Nat} {x2 : Int32} {o : Hp} (k_x0 : hK h x0 = 6) (k_x1 : hK h x1 = 3) (hE : sX6_lay F h x0 x1 x2 = some o) : MetV l yX6_lay cX6_lay 3 none 2 86 X [.ref x0, .ref x1, .int x2] h o := by
  refine x_met (by decide) (Nat.le_of_ble_eq_true rfl) ?_
  intro p e s m below meth c ls C hl hW hZ
  have hl : lv_has ls 3 [(0, .ref x0), (1, .ref x1), (2, .int x2)] := hl
  have hkm : Km h h := Km.rf h
  refine lv_aload_n C.1 C.2.1 dX6_lay_0 rfl (lv_at hl 1 rfl) ?_
  refine lv_aload_n C.1 C.2.1 dX6_lay_1 rfl (lv_at hl 0 rfl) ?_
  obtain ⟨r_1, er_1, hE⟩ := cl_e hE
  refine gf_X6_12 C hW k_x0 er_1 dX6_lay_2 (fun k_r_1 => ?_)
  obtain ⟨o_2, eo_2, hE⟩ := cl_e hE
  refine x_kV (o := o_2) (z_runV (As := [.ref r_1]) (rest := []) C (ct_X3_copyFrom l X F k_x1 k_r_1 eo_2) cw_X6_45 hW hZ k_x1 (by decide) rfl rfl rfl hl.1 (Nat.le_of_ble_eq_true rfl) rfl dX6_lay_5 ⟨Nat.le_of_ble_eq_true rfl, Nat.le_of_ble_eq_true rfl⟩ ⟨Nat.le_refl _, Nat.le_refl _⟩) hZ (fun _ _ hW km hZ => ?_)
  replace hkm := hkm.tr km
  replace k_x0 := km.at k_x0 (by decide)
  replace k_x1 := km.at k_x1 (by decide)
  refine lv_aload_n C.1 C.2.1 dX6_lay_8 rfl (lv_at hl 1 rfl) ?_
  refine lv_iload_n C.1 C.2.1 dX6_lay_9 rfl (lv_at hl 2 rfl) ?_
  refine lv_bipush (v := (6 : Int32)) C.1 C.2.1 dX6_lay_10 (by decide) ?_
  refine lv_ishr C.1 C.2.1 dX6_lay_12 ?_
  refine lv_bipush (v := (63 : Int32)) C.1 C.2.1 dX6_lay_13 (by decide) ?_
  refine lv_iand C.1 C.2.1 dX6_lay_15 ?_
  refine lv_aload_n C.1 C.2.1 dX6_lay_16 rfl (lv_at hl 0 rfl) ?_
  refine lv_iload_n C.1 C.2.1 dX6_lay_17 rfl (lv_at hl 2 rfl) ?_
  obtain ⟨o_3, eo_3, hE⟩ := cl_e hE
  refine x_kI (o := o_3) (z_runV (As := [.int x2]) (rest := [.int ((x2 >>> ((6 : Int32) &&& 31)) &&& (63 : Int32)), .ref x1]) C (ct_X6_takenIn l X k_x0 eo_3) cw_X6_135 hW hZ k_x0 (by decide) rfl rfl rfl hl.1 (Nat.le_of_ble_eq_true rfl) rfl dX6_lay_18 ⟨Nat.le_of_ble_eq_true rfl, Nat.le_of_ble_eq_true rfl⟩ ⟨Nat.le_refl _, Nat.le_refl _⟩) hZ (fun _ _ hW km hZ => ?_)
  replace hkm := hkm.tr km
  replace k_x0 := km.at k_x0 (by decide)
  replace k_x1 := km.at k_x1 (by decide)
  refine lv_aload_n C.1 C.2.1 dX6_lay_21 rfl (lv_at hl 0 rfl) ?_
  obtain ⟨r_4, er_4, hE⟩ := cl_e hE
  refine gf_X6_25 C hW k_x0 er_4 dX6_lay_22 (fun k_r_4 => ?_)
  refine gf_X6_93 C hW k_r_4 dX6_lay_25 ?_
  obtain ⟨o_5, eo_5, hE⟩ := cl_e hE
  refine x_kV (o := o_5) (z_runV (As := [.int ((x2 >>> ((6 : Int32) &&& 31)) &&& (63 : Int32)), .int o_3.1, .int (hI o_3.2 r_4 4)]) (rest := []) C (ct_X3_put l X k_x1 eo_5) cw_X6_138 hW hZ k_x1 (by decide) rfl rfl rfl hl.1 (Nat.le_of_ble_eq_true rfl) rfl dX6_lay_28 ⟨Nat.le_of_ble_eq_true rfl, Nat.le_of_ble_eq_true rfl⟩ ⟨Nat.le_refl _, Nat.le_refl _⟩) hZ (fun _ _ hW km hZ => ?_)
  replace hkm := hkm.tr km
  replace k_x0 := km.at k_x0 (by decide)
  replace k_x1 := km.at k_x1 (by decide)
  refine lv_aload_n C.1 C.2.1 dX6_lay_31 rfl (lv_at hl 1 rfl) ?_
  refine lv_iload_n C.1 C.2.1 dX6_lay_32 rfl (lv_at hl 2 rfl) ?_
  refine lv_bipush (v := (63 : Int32)) C.1 C.2.1 dX6_lay_33 (by decide) ?_
  refine lv_iand C.1 C.2.1 dX6_lay_35 ?_
  refine lv_iconst (v := (2 : Int32)) C.1 C.2.1 dX6_lay_36 (by decide) ?_
  refine lv_iload_n C.1 C.2.1 dX6_lay_37 rfl (lv_at hl 2 rfl) ?_
  refine lv_bipush (v := (12 : Int32)) C.1 C.2.1 dX6_lay_38 (by decide) ?_
  refine lv_ishr C.1 C.2.1 dX6_lay_40 ?_
  refine lv_bipush (v := (15 : Int32)) C.1 C.2.1 dX6_lay_41 (by decide) ?_
  refine lv_iand C.1 C.2.1 dX6_lay_43 ?_
  refine lv_imul C.1 C.2.1 dX6_lay_44 ?_
  refine lv_aload_n C.1 C.2.1 dX6_lay_45 rfl (lv_at hl 0 rfl) ?_
  obtain ⟨r_6, er_6, hE⟩ := cl_e hE
  refine gf_X6_12 C hW k_x0 er_6 dX6_lay_46 (fun k_r_6 => ?_)
  refine gf_X6_52 C hW k_r_6 dX6_lay_49 ?_
  refine lv_iadd C.1 C.2.1 dX6_lay_52 ?_
  refine lv_aload_n C.1 C.2.1 dX6_lay_53 rfl (lv_at hl 0 rfl) ?_
  obtain ⟨r_7, er_7, hE⟩ := cl_e hE
  refine gf_X6_25 C hW k_x0 er_7 dX6_lay_54 (fun k_r_7 => ?_)
  refine gf_X6_93 C hW k_r_7 dX6_lay_57 ?_
  obtain ⟨o_8, eo_8, hE⟩ := cl_e hE
  refine x_kV (o := o_8) (z_runV (As := [.int (x2 &&& (63 : Int32)), .int (((2 : Int32) * ((x2 >>> ((12 : Int32) &&& 31)) &&& (15 : Int32))) + (hI o_5 r_6 5)), .int (hI o_5 r_7 4)]) (rest := []) C (ct_X3_put l X k_x1 eo_8) cw_X6_138 hW hZ k_x1 (by decide) rfl rfl rfl hl.1 (Nat.le_of_ble_eq_true rfl) rfl dX6_lay_60 ⟨Nat.le_of_ble_eq_true rfl, Nat.le_of_ble_eq_true rfl⟩ ⟨Nat.le_refl _, Nat.le_refl _⟩) hZ (fun _ _ hW km hZ => ?_)
  replace hkm := hkm.tr km
  replace k_x0 := km.at k_x0 (by decide)
  replace k_x1 := km.at k_x1 (by decide)
  exact x_vret C rfl hW hZ hkm hE dX6_lay_63
theorem m_346 : Cond.fieldLink RX6 124 (TX5 2).1 (TX5 2).2.1 (TX5 2).2.2.1 ∈ W0 := w0_in (List.mem_append_right _ (List.mem_of_getElem? (i := 346) (by decide +kernel))) rfl
theorem m_1036 : Cond.instanceMethod yX5_faultOf ∈ W0 := w0_in (List.mem_append_right _ (List.mem_of_getElem? (i := 1036) (by decide +kernel))) rfl
theorem m_1037 : Cond.selects RX5 yX5_faultOf yX5_faultOf ∈ W0 := w0_in (List.mem_append_right _ (List.mem_of_getElem? (i := 1037) (by decide +kernel))) rfl
theorem m_1038 : Cond.code yX5_faultOf cX5_faultOf 2 (some .int) ∈ W0 := w0_in (List.mem_append_right _ (List.mem_of_getElem? (i := 1038) (by decide +kernel))) rfl
theorem m_1547 : Cond.methodLink RX6 61 yX1_has ∈ W0 := w0_in (List.mem_append_right _ (List.mem_of_getElem? (i := 1547) (by decide +kernel))) rfl
theorem m_1575 : Cond.methodLink RX6 117 yX5_faultOf ∈ W0 := w0_in (List.mem_append_right _ (List.mem_of_getElem? (i := 1575) (by decide +kernel))) rfl
theorem m_1576 : Cond.methodLink RX6 121 yX5_earlyEnd ∈ W0 := w0_in (List.mem_append_right _ (List.mem_of_getElem? (i := 1576) (by decide +kernel))) rfl
theorem m_1577 : Cond.methodLink RX6 127 yX5_collect ∈ W0 := w0_in (List.mem_append_right _ (List.mem_of_getElem? (i := 1577) (by decide +kernel))) rfl
theorem m_1578 : Cond.methodLink RX6 131 yX5_takenBy ∈ W0 := w0_in (List.mem_append_right _ (List.mem_of_getElem? (i := 1578) (by decide +kernel))) rfl
section
variable {p : Program} {l : Launch} {e : Env} {R : Room} {s : State} {m : MethodId} {args : Array Value} {below : List Frame} {meth : Method} {c : Code} {H : Heap} {locs : List Loc} {cells slots : Nat} {Q : State → Prop}
variable {cc : ByteArray} {pc : Nat} {ls : Array Slot} {rest : List Value} {X : Ec} {h h1 : Hp} {nL : Nat} {rt : Option FieldType} {mn : String}
theorem gf_X6_33 {a r : Nat} (C : Cx X p s m args meth c RX6 cc nL rt mn) (hW : Wx X h H) (ha : hK h a = 6) (hr : hR h a 2 = some r) (hdg : decode cc pc = .ok (.getfield 33, 3)) (kk : hK h r = 5 → W p l e R s m args below meth c H locs cells slots Q (F0 m (pc + 3) ls (.ref r :: rest))) : W p l e R s m args below meth c H locs cells slots Q (F0 m pc ls (.ref a :: rest)) :=
  y_getr C hW ha i_X6 (by decide) rfl (by decide) m_424 rfl rfl hr hdg kk
theorem gf_X6_18 {a r : Nat} (C : Cx X p s m args meth c RX6 cc nL rt mn) (hW : Wx X h H) (ha : hK h a = 6) (hr : hR h a 4 = some r) (hdg : decode cc pc = .ok (.getfield 18, 3)) (kk : hK h r = 3 → W p l e R s m args below meth c H locs cells slots Q (F0 m (pc + 3) ls (.ref r :: rest))) : W p l e R s m args below meth c H locs cells slots Q (F0 m pc ls (.ref a :: rest)) :=
  y_getr C hW ha i_X6 (by decide) rfl (by decide) m_426 rfl rfl hr hdg kk
theorem gf_X6_124 {a r : Nat} (C : Cx X p s m args meth c RX6 cc nL rt mn) (hW : Wx X h H) (ha : hK h a = 5) (hr : hR h a 2 = some r) (hdg : decode cc pc = .ok (.getfield 124, 3)) (kk : hK h r = 17 → W p l e R s m args below meth c H locs cells slots Q (F0 m (pc + 3) ls (.ref r :: rest))) : W p l e R s m args below meth c H locs cells slots Q (F0 m pc ls (.ref a :: rest)) :=
  y_getr C hW ha i_X5 (by decide) rfl (by decide) m_346 rfl rfl hr hdg kk
end
theorem cw_X6_117 : cwd RX6 117 yX5_faultOf cX5_faultOf 2 (some .int) false 1 := ⟨m_1038, m_1575, m_7, ⟨m_1036, m_1037⟩, by decide, by decide, by decide +kernel⟩
theorem cw_X6_121 : cwd RX6 121 yX5_earlyEnd cX5_earlyEnd 2 (some .int) false 1 := ⟨m_1179, m_1576, m_7, ⟨m_1177, m_1178⟩, by decide, by decide, by decide +kernel⟩
theorem cw_X6_61 : cwd RX6 61 yX1_has cX1_has 2 (some .boolean) false 1 := ⟨m_1052, m_1547, m_4, ⟨m_1050, m_1051⟩, by decide, by decide, by decide +kernel⟩
theorem cw_X6_127 : cwd RX6 127 yX5_collect cX5_collect 9 (some .int) false 3 := ⟨m_1163, m_1577, m_7, ⟨m_1161, m_1162⟩, by decide, by decide, by decide +kernel⟩
theorem cw_X6_131 : cwd RX6 131 yX5_takenBy cX5_takenBy 2 (some .int) true 1 := ⟨m_1212, m_1578, m_7, m_1211, by decide, by decide, by decide +kernel⟩
theorem dX6_isBefore_0 : decode cX6_isBefore 0 = .ok (.aload_n 0, 1) := by decide +kernel
theorem dX6_isBefore_1 : decode cX6_isBefore 1 = .ok (.getfield 33, 3) := by decide +kernel
theorem dX6_isBefore_4 : decode cX6_isBefore 4 = .ok (.aload_n 0, 1) := by decide +kernel
theorem dX6_isBefore_5 : decode cX6_isBefore 5 = .ok (.getfield 18, 3) := by decide +kernel
theorem dX6_isBefore_8 : decode cX6_isBefore 8 = .ok (.invokevirtual 117, 3) := by decide +kernel
theorem dX6_isBefore_11 : decode cX6_isBefore 11 = .ok (.ifCond .ne 17, 3) := by decide +kernel
theorem dX6_isBefore_14 : decode cX6_isBefore 14 = .ok (.aload_n 0, 1) := by decide +kernel
theorem dX6_isBefore_15 : decode cX6_isBefore 15 = .ok (.getfield 33, 3) := by decide +kernel
theorem dX6_isBefore_18 : decode cX6_isBefore 18 = .ok (.aload_n 0, 1) := by decide +kernel
theorem dX6_isBefore_19 : decode cX6_isBefore 19 = .ok (.getfield 18, 3) := by decide +kernel
theorem dX6_isBefore_22 : decode cX6_isBefore 22 = .ok (.invokevirtual 121, 3) := by decide +kernel
theorem dX6_isBefore_25 : decode cX6_isBefore 25 = .ok (.ifCond .eq 5, 3) := by decide +kernel
theorem dX6_isBefore_28 : decode cX6_isBefore 28 = .ok (.iconst 0, 1) := by decide +kernel
theorem dX6_isBefore_29 : decode cX6_isBefore 29 = .ok (.ireturn, 1) := by decide +kernel
theorem dX6_isBefore_30 : decode cX6_isBefore 30 = .ok (.iload_n 1, 1) := by decide +kernel
theorem dX6_isBefore_31 : decode cX6_isBefore 31 = .ok (.iconst (-1), 1) := by decide +kernel
theorem dX6_isBefore_32 : decode cX6_isBefore 32 = .ok (.if_icmp .ne 14, 3) := by decide +kernel
theorem dX6_isBefore_35 : decode cX6_isBefore 35 = .ok (.aload_n 0, 1) := by decide +kernel
theorem dX6_isBefore_36 : decode cX6_isBefore 36 = .ok (.getfield 25, 3) := by decide +kernel
theorem dX6_isBefore_39 : decode cX6_isBefore 39 = .ok (.iconst 2, 1) := by decide +kernel
theorem dX6_isBefore_40 : decode cX6_isBefore 40 = .ok (.invokevirtual 61, 3) := by decide +kernel
theorem dX6_isBefore_43 : decode cX6_isBefore 43 = .ok (.ifCond .ne 5, 3) := by decide +kernel
theorem dX6_isBefore_46 : decode cX6_isBefore 46 = .ok (.iconst 1, 1) := by decide +kernel
theorem dX6_isBefore_47 : decode cX6_isBefore 47 = .ok (.ireturn, 1) := by decide +kernel
theorem dX6_isBefore_48 : decode cX6_isBefore 48 = .ok (.aload_n 0, 1) := by decide +kernel
theorem dX6_isBefore_49 : decode cX6_isBefore 49 = .ok (.getfield 33, 3) := by decide +kernel
theorem dX6_isBefore_52 : decode cX6_isBefore 52 = .ok (.aload_n 0, 1) := by decide +kernel
theorem dX6_isBefore_53 : decode cX6_isBefore 53 = .ok (.getfield 18, 3) := by decide +kernel
theorem dX6_isBefore_56 : decode cX6_isBefore 56 = .ok (.aload_n 0, 1) := by decide +kernel
theorem dX6_isBefore_57 : decode cX6_isBefore 57 = .ok (.getfield 33, 3) := by decide +kernel
theorem dX6_isBefore_60 : decode cX6_isBefore 60 = .ok (.getfield 124, 3) := by decide +kernel
theorem dX6_isBefore_63 : decode cX6_isBefore 63 = .ok (.sipush 4096, 3) := by decide +kernel
theorem dX6_isBefore_66 : decode cX6_isBefore 66 = .ok (.invokevirtual 127, 3) := by decide +kernel
theorem dX6_isBefore_69 : decode cX6_isBefore 69 = .ok (.istore_n 2, 1) := by decide +kernel
theorem dX6_isBefore_70 : decode cX6_isBefore 70 = .ok (.iload_n 2, 1) := by decide +kernel
theorem dX6_isBefore_71 : decode cX6_isBefore 71 = .ok (.ifCond .le 23, 3) := by decide +kernel
theorem dX6_isBefore_74 : decode cX6_isBefore 74 = .ok (.aload_n 0, 1) := by decide +kernel
theorem dX6_isBefore_75 : decode cX6_isBefore 75 = .ok (.getfield 33, 3) := by decide +kernel
theorem dX6_isBefore_78 : decode cX6_isBefore 78 = .ok (.getfield 124, 3) := by decide +kernel
theorem dX6_isBefore_81 : decode cX6_isBefore 81 = .ok (.iconst 0, 1) := by decide +kernel
theorem dX6_isBefore_82 : decode cX6_isBefore 82 = .ok (.iaload, 1) := by decide +kernel
theorem dX6_isBefore_83 : decode cX6_isBefore 83 = .ok (.invokestatic 131, 3) := by decide +kernel
theorem dX6_isBefore_86 : decode cX6_isBefore 86 = .ok (.iconst (-1), 1) := by decide +kernel
theorem dX6_isBefore_87 : decode cX6_isBefore 87 = .ok (.if_icmp .ne 7, 3) := by decide +kernel
theorem dX6_isBefore_90 : decode cX6_isBefore 90 = .ok (.iconst 1, 1) := by decide +kernel
theorem dX6_isBefore_91 : decode cX6_isBefore 91 = .ok (.goto 4, 3) := by decide +kernel
theorem dX6_isBefore_94 : decode cX6_isBefore 94 = .ok (.iconst 0, 1) := by decide +kernel
theorem dX6_isBefore_95 : decode cX6_isBefore 95 = .ok (.ireturn, 1) := by decide +kernel
def sX6_isBefore_28 (F : Nat) (h : Hp) : Option (Int32 × Hp) := some ((0 : Int32), h)
def sX6_isBefore_46 (F : Nat) (h : Hp) : Option (Int32 × Hp) := some ((1 : Int32), h)
def sX6_isBefore_95 (F : Nat) (h : Hp) (t0 : Int32) : Option (Int32 × Hp) := gd (t0 &&& 1 = t0) <| some (t0, h)
def sX6_isBefore_94 (F : Nat) (h : Hp) : Option (Int32 × Hp) := sX6_isBefore_95 F h (0 : Int32)
def sX6_isBefore (F : Nat) (h : Hp) (x0 : Nat) (x1 : Int32) : Option (Int32 × Hp) := cl (hR h x0 2) fun r_1 => cl (hR h x0 4) fun r_2 => cl (sX5_faultOf F h r_1 r_2) fun o_3 => br (o_3.1 = 0) (cl (hR o_3.2 x0 2) fun r_5 => cl (hR o_3.2 x0 4) fun r_6 => cl (sX5_earlyEnd o_3.2 r_5 r_6) fun o_7 => br (o_7.1 = 0) (br (x1 = (-1 : Int32)) (cl (hR o_7.2 x0 0) fun r_10 => cl (sX1_has o_7.2 r_10 (2 : Int32)) fun o_11 => br (o_11.1 = 0) (sX6_isBefore_46 F o_11.2 ) (cl (hR o_11.2 x0 2) fun r_13 => cl (hR o_11.2 x0 4) fun r_14 => cl (hR o_11.2 x0 2) fun r_15 => cl (hR o_11.2 r_15 2) fun r_16 => cl (sX5_collect F o_11.2 r_13 r_14 r_16 (4096 : Int32)) fun o_17 => br (o_17.1 ≤ 0) (sX6_isBefore_94 F o_17.2 ) (cl (hR o_17.2 x0 2) fun r_19 => cl (hR o_17.2 r_19 2) fun r_20 => gd (inB (0 : Int32) (hN o_17.2 r_20)) <| cl (sX5_takenBy o_17.2 (hI o_17.2 r_20 (0 : Int32).toNatClampNeg)) fun o_22 => br (o_22.1 = (-1 : Int32)) (sX6_isBefore_95 F o_22.2 (1 : Int32)) (sX6_isBefore_94 F o_22.2 )))) (sX6_isBefore_46 F o_7.2 )) (sX6_isBefore_28 F o_7.2 )) (sX6_isBefore_28 F o_3.2 )
set_option maxRecDepth 20000 in
theorem bX6_isBefore_28 {p : Program} {l : Launch} {e : Env} {s : State} {m : MethodId} {args : Array Value} {below : List Frame} {meth : Method} {c : Code} {X : Ec} {h0 : Hp} {o : Int32 × Hp} {F : Nat} (C : Cx X p s m args meth c RX6 cX6_isBefore 3 (some .boolean) "isBefore") {h : Hp} {H : Heap} {locs : List Loc} (hkm : Km h0 h) (hW : Wx X h H) (hZ : va_S (aA (eB X)) s.heap H locs) (ls : Array Slot) (hl : lv_has ls 3 []) (hE : sX6_isBefore_28 F h  = some o) : W p l e (rm 4 139) s m args below meth c H locs 0 0 (MQ below (QI X h0 o.1 o.2) args s 0 0 (aA (eB X))) (F0 m 28 ls []) := by
  refine lv_iconst (v := (0 : Int32)) C.1 C.2.1 dX6_isBefore_28 (by decide) ?_
  exact x_iret C rfl (by decide) hW hZ hkm hE dX6_isBefore_29
set_option maxRecDepth 20000 in
theorem bX6_isBefore_46 {p : Program} {l : Launch} {e : Env} {s : State} {m : MethodId} {args : Array Value} {below : List Frame} {meth : Method} {c : Code} {X : Ec} {h0 : Hp} {o : Int32 × Hp} {F : Nat} (C : Cx X p s m args meth c RX6 cX6_isBefore 3 (some .boolean) "isBefore") {h : Hp} {H : Heap} {locs : List Loc} (hkm : Km h0 h) (hW : Wx X h H) (hZ : va_S (aA (eB X)) s.heap H locs) (ls : Array Slot) (hl : lv_has ls 3 []) (hE : sX6_isBefore_46 F h  = some o) : W p l e (rm 4 139) s m args below meth c H locs 0 0 (MQ below (QI X h0 o.1 o.2) args s 0 0 (aA (eB X))) (F0 m 46 ls []) := by
  refine lv_iconst (v := (1 : Int32)) C.1 C.2.1 dX6_isBefore_46 (by decide) ?_
  exact x_iret C rfl (by decide) hW hZ hkm hE dX6_isBefore_47
set_option maxRecDepth 20000 in
theorem bX6_isBefore_95 {p : Program} {l : Launch} {e : Env} {s : State} {m : MethodId} {args : Array Value} {below : List Frame} {meth : Method} {c : Code} {X : Ec} {h0 : Hp} {o : Int32 × Hp} {F : Nat} (C : Cx X p s m args meth c RX6 cX6_isBefore 3 (some .boolean) "isBefore") {h : Hp} {t0 : Int32} {H : Heap} {locs : List Loc} (hkm : Km h0 h) (hW : Wx X h H) (hZ : va_S (aA (eB X)) s.heap H locs) (ls : Array Slot) (hl : lv_has ls 3 []) (hE : sX6_isBefore_95 F h  t0 = some o) : W p l e (rm 4 139) s m args below meth c H locs 0 0 (MQ below (QI X h0 o.1 o.2) args s 0 0 (aA (eB X))) (F0 m 95 ls [.int t0]) := by
  obtain ⟨g_1, hE⟩ := gd_e hE
  exact x_iret C rfl (narB g_1) hW hZ hkm hE dX6_isBefore_95
set_option maxRecDepth 20000 in
theorem bX6_isBefore_94 {p : Program} {l : Launch} {e : Env} {s : State} {m : MethodId} {args : Array Value} {below : List Frame} {meth : Method} {c : Code} {X : Ec} {h0 : Hp} {o : Int32 × Hp} {F : Nat} (C : Cx X p s m args meth c RX6 cX6_isBefore 3 (some .boolean) "isBefore") {h : Hp} {H : Heap} {locs : List Loc} (hkm : Km h0 h) (hW : Wx X h H) (hZ : va_S (aA (eB X)) s.heap H locs) (ls : Array Slot) (hl : lv_has ls 3 []) (hE : sX6_isBefore_94 F h  = some o) : W p l e (rm 4 139) s m args below meth c H locs 0 0 (MQ below (QI X h0 o.1 o.2) args s 0 0 (aA (eB X))) (F0 m 94 ls []) := by
  refine lv_iconst (v := (0 : Int32)) C.1 C.2.1 dX6_isBefore_94 (by decide) ?_
  exact bX6_isBefore_95 C hkm hW hZ _ (lv_sub hl [] rfl) hE
set_option maxRecDepth 20000 in
theorem ct_X6_isBefore (l : Launch) (X : Ec) (F : Nat) {h : Hp} {x0 : Nat} {x1 : Int32} {o : Int32 × Hp} (k_x0 : hK h x0 = 6) (hE : sX6_isBefore F h x0 x1 = some o) : MetI l yX6_isBefore cX6_isBefore 3 (some .boolean) 4 139 X [.ref x0, .int x1] h o := by
  refine x_met (by decide) (Nat.le_of_ble_eq_true rfl) ?_
  intro p e s m below meth c ls C hl hW hZ
  have hl : lv_has ls 3 [(0, .ref x0), (1, .int x1)] := hl
  have hkm : Km h h := Km.rf h
  refine lv_aload_n C.1 C.2.1 dX6_isBefore_0 rfl (lv_at hl 0 rfl) ?_
  obtain ⟨r_1, er_1, hE⟩ := cl_e hE
  refine gf_X6_33 C hW k_x0 er_1 dX6_isBefore_1 (fun k_r_1 => ?_)
  refine lv_aload_n C.1 C.2.1 dX6_isBefore_4 rfl (lv_at hl 0 rfl) ?_
  obtain ⟨r_2, er_2, hE⟩ := cl_e hE
  refine gf_X6_18 C hW k_x0 er_2 dX6_isBefore_5 (fun k_r_2 => ?_)
  obtain ⟨o_3, eo_3, hE⟩ := cl_e hE
  refine x_kI (o := o_3) (z_runV (As := [.ref r_2]) (rest := []) C (ct_X5_faultOf l X F k_r_1 k_r_2 eo_3) cw_X6_117 hW hZ k_r_1 (by decide) rfl rfl rfl hl.1 (Nat.le_of_ble_eq_true rfl) rfl dX6_isBefore_8 ⟨Nat.le_of_ble_eq_true rfl, Nat.le_of_ble_eq_true rfl⟩ ⟨Nat.le_refl _, Nat.le_refl _⟩) hZ (fun _ _ hW km hZ => ?_)
  replace hkm := hkm.tr km
  replace k_x0 := km.at k_x0 (by decide)
  refine lv_if_ne (tgt := 28) C.1 C.2.1 dX6_isBefore_11 (by decide) (fun c_4 => ?_) (fun c_4 => ?_)
  · have hE := br_n hE c_4
    exact bX6_isBefore_28 C hkm hW hZ _ (lv_sub hl [] rfl) hE
  · have hE := br_p hE c_4
    refine lv_aload_n C.1 C.2.1 dX6_isBefore_14 rfl (lv_at hl 0 rfl) ?_
    obtain ⟨r_5, er_5, hE⟩ := cl_e hE
    refine gf_X6_33 C hW k_x0 er_5 dX6_isBefore_15 (fun k_r_5 => ?_)
    refine lv_aload_n C.1 C.2.1 dX6_isBefore_18 rfl (lv_at hl 0 rfl) ?_
    obtain ⟨r_6, er_6, hE⟩ := cl_e hE
    refine gf_X6_18 C hW k_x0 er_6 dX6_isBefore_19 (fun k_r_6 => ?_)
    obtain ⟨o_7, eo_7, hE⟩ := cl_e hE
    refine x_kI (o := o_7) (z_runV (As := [.ref r_6]) (rest := []) C (ct_X5_earlyEnd l X k_r_5 k_r_6 eo_7) cw_X6_121 hW hZ k_r_5 (by decide) rfl rfl rfl hl.1 (Nat.le_of_ble_eq_true rfl) rfl dX6_isBefore_22 ⟨Nat.le_of_ble_eq_true rfl, Nat.le_of_ble_eq_true rfl⟩ ⟨Nat.le_refl _, Nat.le_refl _⟩) hZ (fun _ _ hW km hZ => ?_)
    replace hkm := hkm.tr km
    replace k_x0 := km.at k_x0 (by decide)
    refine lv_if_eq (tgt := 30) C.1 C.2.1 dX6_isBefore_25 (by decide) (fun c_8 => ?_) (fun c_8 => ?_)
    · have hE := br_p hE c_8
      refine lv_iload_n C.1 C.2.1 dX6_isBefore_30 rfl (lv_at hl 1 rfl) ?_
      refine lv_iconst (v := (-1 : Int32)) C.1 C.2.1 dX6_isBefore_31 (by decide) ?_
      refine lv_icmp_ne (tgt := 46) C.1 C.2.1 dX6_isBefore_32 (by decide) (fun c_9 => ?_) (fun c_9 => ?_)
      · have hE := br_n hE c_9
        exact bX6_isBefore_46 C hkm hW hZ _ (lv_sub hl [] rfl) hE
      · have hE := br_p hE c_9
        refine lv_aload_n C.1 C.2.1 dX6_isBefore_35 rfl (lv_at hl 0 rfl) ?_
        obtain ⟨r_10, er_10, hE⟩ := cl_e hE
        refine gf_X6_25 C hW k_x0 er_10 dX6_isBefore_36 (fun k_r_10 => ?_)
        refine lv_iconst (v := (2 : Int32)) C.1 C.2.1 dX6_isBefore_39 (by decide) ?_
        obtain ⟨o_11, eo_11, hE⟩ := cl_e hE
        refine x_kI (o := o_11) (z_runV (As := [.int (2 : Int32)]) (rest := []) C (ct_X1_has l X k_r_10 eo_11) cw_X6_61 hW hZ k_r_10 (by decide) rfl rfl rfl hl.1 (Nat.le_of_ble_eq_true rfl) rfl dX6_isBefore_40 ⟨Nat.le_of_ble_eq_true rfl, Nat.le_of_ble_eq_true rfl⟩ ⟨Nat.le_refl _, Nat.le_refl _⟩) hZ (fun _ _ hW km hZ => ?_)
        replace hkm := hkm.tr km
        replace k_x0 := km.at k_x0 (by decide)
        refine lv_if_ne (tgt := 48) C.1 C.2.1 dX6_isBefore_43 (by decide) (fun c_12 => ?_) (fun c_12 => ?_)
        · have hE := br_n hE c_12
          refine lv_aload_n C.1 C.2.1 dX6_isBefore_48 rfl (lv_at hl 0 rfl) ?_
          obtain ⟨r_13, er_13, hE⟩ := cl_e hE
          refine gf_X6_33 C hW k_x0 er_13 dX6_isBefore_49 (fun k_r_13 => ?_)
          refine lv_aload_n C.1 C.2.1 dX6_isBefore_52 rfl (lv_at hl 0 rfl) ?_
          obtain ⟨r_14, er_14, hE⟩ := cl_e hE
          refine gf_X6_18 C hW k_x0 er_14 dX6_isBefore_53 (fun k_r_14 => ?_)
          refine lv_aload_n C.1 C.2.1 dX6_isBefore_56 rfl (lv_at hl 0 rfl) ?_
          obtain ⟨r_15, er_15, hE⟩ := cl_e hE
          refine gf_X6_33 C hW k_x0 er_15 dX6_isBefore_57 (fun k_r_15 => ?_)
          obtain ⟨r_16, er_16, hE⟩ := cl_e hE
          refine gf_X6_124 C hW k_r_15 er_16 dX6_isBefore_60 (fun k_r_16 => ?_)
          refine lv_sipush (v := (4096 : Int32)) C.1 C.2.1 dX6_isBefore_63 (by decide) ?_
          obtain ⟨o_17, eo_17, hE⟩ := cl_e hE
          refine x_kI (o := o_17) (z_runV (As := [.ref r_14, .ref r_16, .int (4096 : Int32)]) (rest := []) C (ct_X5_collect l X F k_r_13 k_r_14 k_r_16 eo_17) cw_X6_127 hW hZ k_r_13 (by decide) rfl rfl rfl hl.1 (Nat.le_of_ble_eq_true rfl) rfl dX6_isBefore_66 ⟨Nat.le_of_ble_eq_true rfl, Nat.le_of_ble_eq_true rfl⟩ ⟨Nat.le_refl _, Nat.le_refl _⟩) hZ (fun _ _ hW km hZ => ?_)
          replace hkm := hkm.tr km
          replace k_x0 := km.at k_x0 (by decide)
          refine lv_istore_n (lv' := [(2, .int o_17.1), (0, .ref x0), (1, .int x1)]) C.1 C.2.1 dX6_isBefore_69 rfl hl (by decide) rfl (fun ls hl => ?_)
          refine lv_iload_n C.1 C.2.1 dX6_isBefore_70 rfl (lv_at hl 0 rfl) ?_
          refine lv_if_le (tgt := 94) C.1 C.2.1 dX6_isBefore_71 (by decide) (fun c_18 => ?_) (fun c_18 => ?_)
          · have hE := br_p hE c_18
            exact bX6_isBefore_94 C hkm hW hZ _ (lv_sub hl [] rfl) hE
          · have hE := br_n hE c_18
            refine lv_aload_n C.1 C.2.1 dX6_isBefore_74 rfl (lv_at hl 1 rfl) ?_
            obtain ⟨r_19, er_19, hE⟩ := cl_e hE
            refine gf_X6_33 C hW k_x0 er_19 dX6_isBefore_75 (fun k_r_19 => ?_)
            obtain ⟨r_20, er_20, hE⟩ := cl_e hE
            refine gf_X6_124 C hW k_r_19 er_20 dX6_isBefore_78 (fun k_r_20 => ?_)
            refine lv_iconst (v := (0 : Int32)) C.1 C.2.1 dX6_isBefore_81 (by decide) ?_
            obtain ⟨g_21, hE⟩ := gd_e hE
            refine y_iald C hW k_r_20 g_21 dX6_isBefore_82 ?_
            obtain ⟨o_22, eo_22, hE⟩ := cl_e hE
            refine x_kI (o := o_22) (z_runS (As := [.int (hI o_17.2 r_20 (0 : Int32).toNatClampNeg)]) (rest := []) C (ct_X5_takenBy l X eo_22) cw_X6_131 hW hZ rfl hl.1 (Nat.le_of_ble_eq_true rfl) rfl dX6_isBefore_83 ⟨Nat.le_of_ble_eq_true rfl, Nat.le_of_ble_eq_true rfl⟩ ⟨Nat.le_refl _, Nat.le_refl _⟩) hZ (fun _ _ hW km hZ => ?_)
            replace hkm := hkm.tr km
            replace k_x0 := km.at k_x0 (by decide)
            refine lv_iconst (v := (-1 : Int32)) C.1 C.2.1 dX6_isBefore_86 (by decide) ?_
            refine lv_icmp_ne (tgt := 94) C.1 C.2.1 dX6_isBefore_87 (by decide) (fun c_23 => ?_) (fun c_23 => ?_)
            · have hE := br_n hE c_23
              exact bX6_isBefore_94 C hkm hW hZ _ (lv_sub hl [] rfl) hE
            · have hE := br_p hE c_23
              refine lv_iconst (v := (1 : Int32)) C.1 C.2.1 dX6_isBefore_90 (by decide) ?_
              refine lv_goto (tgt := 95) C.1 C.2.1 dX6_isBefore_91 (by decide) ?_
              exact bX6_isBefore_95 C hkm hW hZ _ (lv_sub hl [] rfl) hE
        · have hE := br_p hE c_12
          exact bX6_isBefore_46 C hkm hW hZ _ (lv_sub hl [] rfl) hE
    · have hE := br_n hE c_8
      exact bX6_isBefore_28 C hkm hW hZ _ (lv_sub hl [] rfl) hE
theorem m_277 : Cond.fieldLink RX6 75 (TX3 0).1 (TX3 0).2.1 (TX3 0).2.2.1 ∈ W0 := w0_in (List.mem_append_right _ (List.mem_of_getElem? (i := 277) (by decide +kernel))) rfl
section
variable {p : Program} {l : Launch} {e : Env} {R : Room} {s : State} {m : MethodId} {args : Array Value} {below : List Frame} {meth : Method} {c : Code} {H : Heap} {locs : List Loc} {cells slots : Nat} {Q : State → Prop}
variable {cc : ByteArray} {pc : Nat} {ls : Array Slot} {rest : List Value} {X : Ec} {h h1 : Hp} {nL : Nat} {rt : Option FieldType} {mn : String}
theorem gf_X6_75 {a r : Nat} (C : Cx X p s m args meth c RX6 cc nL rt mn) (hW : Wx X h H) (ha : hK h a = 3) (hr : hR h a 0 = some r) (hdg : decode cc pc = .ok (.getfield 75, 3)) (kk : hK h r = 16 → W p l e R s m args below meth c H locs cells slots Q (F0 m (pc + 3) ls (.ref r :: rest))) : W p l e R s m args below meth c H locs cells slots Q (F0 m pc ls (.ref a :: rest)) :=
  y_getr C hW ha i_X3 (by decide) rfl (by decide) m_277 rfl rfl hr hdg kk
end
theorem dX6_standsOn_0 : decode cX6_standsOn 0 = .ok (.iload_n 2, 1) := by decide +kernel
theorem dX6_standsOn_1 : decode cX6_standsOn 1 = .ok (.iload_n 1, 1) := by decide +kernel
theorem dX6_standsOn_2 : decode cX6_standsOn 2 = .ok (.bipush 63, 2) := by decide +kernel
theorem dX6_standsOn_4 : decode cX6_standsOn 4 = .ok (.iand, 1) := by decide +kernel
theorem dX6_standsOn_5 : decode cX6_standsOn 5 = .ok (.if_icmp .ne 21, 3) := by decide +kernel
theorem dX6_standsOn_8 : decode cX6_standsOn 8 = .ok (.iconst 2, 1) := by decide +kernel
theorem dX6_standsOn_9 : decode cX6_standsOn 9 = .ok (.iload_n 1, 1) := by decide +kernel
theorem dX6_standsOn_10 : decode cX6_standsOn 10 = .ok (.bipush 12, 2) := by decide +kernel
theorem dX6_standsOn_12 : decode cX6_standsOn 12 = .ok (.ishr, 1) := by decide +kernel
theorem dX6_standsOn_13 : decode cX6_standsOn 13 = .ok (.bipush 15, 2) := by decide +kernel
theorem dX6_standsOn_15 : decode cX6_standsOn 15 = .ok (.iand, 1) := by decide +kernel
theorem dX6_standsOn_16 : decode cX6_standsOn 16 = .ok (.imul, 1) := by decide +kernel
theorem dX6_standsOn_17 : decode cX6_standsOn 17 = .ok (.aload_n 0, 1) := by decide +kernel
theorem dX6_standsOn_18 : decode cX6_standsOn 18 = .ok (.getfield 12, 3) := by decide +kernel
theorem dX6_standsOn_21 : decode cX6_standsOn 21 = .ok (.getfield 52, 3) := by decide +kernel
theorem dX6_standsOn_24 : decode cX6_standsOn 24 = .ok (.iadd, 1) := by decide +kernel
theorem dX6_standsOn_25 : decode cX6_standsOn 25 = .ok (.ireturn, 1) := by decide +kernel
theorem dX6_standsOn_26 : decode cX6_standsOn 26 = .ok (.iload_n 2, 1) := by decide +kernel
theorem dX6_standsOn_27 : decode cX6_standsOn 27 = .ok (.iload_n 1, 1) := by decide +kernel
theorem dX6_standsOn_28 : decode cX6_standsOn 28 = .ok (.bipush 6, 2) := by decide +kernel
theorem dX6_standsOn_30 : decode cX6_standsOn 30 = .ok (.ishr, 1) := by decide +kernel
theorem dX6_standsOn_31 : decode cX6_standsOn 31 = .ok (.bipush 63, 2) := by decide +kernel
theorem dX6_standsOn_33 : decode cX6_standsOn 33 = .ok (.iand, 1) := by decide +kernel
theorem dX6_standsOn_34 : decode cX6_standsOn 34 = .ok (.if_icmp .ne 11, 3) := by decide +kernel
theorem dX6_standsOn_37 : decode cX6_standsOn 37 = .ok (.aload_n 0, 1) := by decide +kernel
theorem dX6_standsOn_38 : decode cX6_standsOn 38 = .ok (.iload_n 1, 1) := by decide +kernel
theorem dX6_standsOn_39 : decode cX6_standsOn 39 = .ok (.invokevirtual 135, 3) := by decide +kernel
theorem dX6_standsOn_42 : decode cX6_standsOn 42 = .ok (.goto 12, 3) := by decide +kernel
theorem dX6_standsOn_45 : decode cX6_standsOn 45 = .ok (.aload_n 0, 1) := by decide +kernel
theorem dX6_standsOn_46 : decode cX6_standsOn 46 = .ok (.getfield 12, 3) := by decide +kernel
theorem dX6_standsOn_49 : decode cX6_standsOn 49 = .ok (.getfield 75, 3) := by decide +kernel
theorem dX6_standsOn_52 : decode cX6_standsOn 52 = .ok (.iload_n 2, 1) := by decide +kernel
theorem dX6_standsOn_53 : decode cX6_standsOn 53 = .ok (.baload, 1) := by decide +kernel
theorem dX6_standsOn_54 : decode cX6_standsOn 54 = .ok (.ireturn, 1) := by decide +kernel
def sX6_standsOn_54 (h : Hp) (t0 : Int32) : Option (Int32 × Hp) := some (t0, h)
def sX6_standsOn (h : Hp) (x0 : Nat) (x1 : Int32) (x2 : Int32) : Option (Int32 × Hp) := br (x2 = (x1 &&& (63 : Int32))) (cl (hR h x0 3) fun r_7 => some (((2 : Int32) * ((x1 >>> ((12 : Int32) &&& 31)) &&& (15 : Int32))) + (hI h r_7 5), h)) (br (x2 = ((x1 >>> ((6 : Int32) &&& 31)) &&& (63 : Int32))) (cl (sX6_takenIn h x0 x1) fun o_6 => sX6_standsOn_54  o_6.2 o_6.1) (cl (hR h x0 3) fun r_3 => cl (hR h r_3 0) fun r_4 => gd (inB x2 (hN h r_4)) <| sX6_standsOn_54  h (hI h r_4 x2.toNatClampNeg)))
set_option maxRecDepth 20000 in
theorem bX6_standsOn_54 {p : Program} {l : Launch} {e : Env} {s : State} {m : MethodId} {args : Array Value} {below : List Frame} {meth : Method} {c : Code} {X : Ec} {h0 : Hp} {o : Int32 × Hp} (C : Cx X p s m args meth c RX6 cX6_standsOn 3 (some .int) "standsOn") {h : Hp} {t0 : Int32} {H : Heap} {locs : List Loc} (hkm : Km h0 h) (hW : Wx X h H) (hZ : va_S (aA (eB X)) s.heap H locs) (ls : Array Slot) (hl : lv_has ls 3 []) (hE : sX6_standsOn_54 h  t0 = some o) : W p l e (rm 1 22) s m args below meth c H locs 0 0 (MQ below (QI X h0 o.1 o.2) args s 0 0 (aA (eB X))) (F0 m 54 ls [.int t0]) := by
  exact x_iret C rfl rfl hW hZ hkm hE dX6_standsOn_54
set_option maxRecDepth 20000 in
theorem ct_X6_standsOn (l : Launch) (X : Ec) {h : Hp} {x0 : Nat} {x1 : Int32} {x2 : Int32} {o : Int32 × Hp} (k_x0 : hK h x0 = 6) (hE : sX6_standsOn h x0 x1 x2 = some o) : MetI l yX6_standsOn cX6_standsOn 3 (some .int) 1 22 X [.ref x0, .int x1, .int x2] h o := by
  refine x_met (by decide) (Nat.le_of_ble_eq_true rfl) ?_
  intro p e s m below meth c ls C hl hW hZ
  have hl : lv_has ls 3 [(0, .ref x0), (1, .int x1), (2, .int x2)] := hl
  have hkm : Km h h := Km.rf h
  refine lv_iload_n C.1 C.2.1 dX6_standsOn_0 rfl (lv_at hl 2 rfl) ?_
  refine lv_iload_n C.1 C.2.1 dX6_standsOn_1 rfl (lv_at hl 1 rfl) ?_
  refine lv_bipush (v := (63 : Int32)) C.1 C.2.1 dX6_standsOn_2 (by decide) ?_
  refine lv_iand C.1 C.2.1 dX6_standsOn_4 ?_
  refine lv_icmp_ne (tgt := 26) C.1 C.2.1 dX6_standsOn_5 (by decide) (fun c_1 => ?_) (fun c_1 => ?_)
  · have hE := br_n hE c_1
    refine lv_iload_n C.1 C.2.1 dX6_standsOn_26 rfl (lv_at hl 2 rfl) ?_
    refine lv_iload_n C.1 C.2.1 dX6_standsOn_27 rfl (lv_at hl 1 rfl) ?_
    refine lv_bipush (v := (6 : Int32)) C.1 C.2.1 dX6_standsOn_28 (by decide) ?_
    refine lv_ishr C.1 C.2.1 dX6_standsOn_30 ?_
    refine lv_bipush (v := (63 : Int32)) C.1 C.2.1 dX6_standsOn_31 (by decide) ?_
    refine lv_iand C.1 C.2.1 dX6_standsOn_33 ?_
    refine lv_icmp_ne (tgt := 45) C.1 C.2.1 dX6_standsOn_34 (by decide) (fun c_2 => ?_) (fun c_2 => ?_)
    · have hE := br_n hE c_2
      refine lv_aload_n C.1 C.2.1 dX6_standsOn_45 rfl (lv_at hl 0 rfl) ?_
      obtain ⟨r_3, er_3, hE⟩ := cl_e hE
      refine gf_X6_12 C hW k_x0 er_3 dX6_standsOn_46 (fun k_r_3 => ?_)
      obtain ⟨r_4, er_4, hE⟩ := cl_e hE
      refine gf_X6_75 C hW k_r_3 er_4 dX6_standsOn_49 (fun k_r_4 => ?_)
      refine lv_iload_n C.1 C.2.1 dX6_standsOn_52 rfl (lv_at hl 2 rfl) ?_
      obtain ⟨g_5, hE⟩ := gd_e hE
      refine y_bald C hW k_r_4 g_5 dX6_standsOn_53 ?_
      exact bX6_standsOn_54 C hkm hW hZ _ (lv_sub hl [] rfl) hE
    · have hE := br_p hE c_2
      refine lv_aload_n C.1 C.2.1 dX6_standsOn_37 rfl (lv_at hl 0 rfl) ?_
      refine lv_iload_n C.1 C.2.1 dX6_standsOn_38 rfl (lv_at hl 1 rfl) ?_
      obtain ⟨o_6, eo_6, hE⟩ := cl_e hE
      refine x_kI (o := o_6) (z_runV (As := [.int x1]) (rest := []) C (ct_X6_takenIn l X k_x0 eo_6) cw_X6_135 hW hZ k_x0 (by decide) rfl rfl rfl hl.1 (Nat.le_of_ble_eq_true rfl) rfl dX6_standsOn_39 ⟨Nat.le_of_ble_eq_true rfl, Nat.le_of_ble_eq_true rfl⟩ ⟨Nat.le_refl _, Nat.le_refl _⟩) hZ (fun _ _ hW km hZ => ?_)
      replace hkm := hkm.tr km
      replace k_x0 := km.at k_x0 (by decide)
      refine lv_goto (tgt := 54) C.1 C.2.1 dX6_standsOn_42 (by decide) ?_
      exact bX6_standsOn_54 C hkm hW hZ _ (lv_sub hl [] rfl) hE
  · have hE := br_p hE c_1
    refine lv_iconst (v := (2 : Int32)) C.1 C.2.1 dX6_standsOn_8 (by decide) ?_
    refine lv_iload_n C.1 C.2.1 dX6_standsOn_9 rfl (lv_at hl 1 rfl) ?_
    refine lv_bipush (v := (12 : Int32)) C.1 C.2.1 dX6_standsOn_10 (by decide) ?_
    refine lv_ishr C.1 C.2.1 dX6_standsOn_12 ?_
    refine lv_bipush (v := (15 : Int32)) C.1 C.2.1 dX6_standsOn_13 (by decide) ?_
    refine lv_iand C.1 C.2.1 dX6_standsOn_15 ?_
    refine lv_imul C.1 C.2.1 dX6_standsOn_16 ?_
    refine lv_aload_n C.1 C.2.1 dX6_standsOn_17 rfl (lv_at hl 0 rfl) ?_
    obtain ⟨r_7, er_7, hE⟩ := cl_e hE
    refine gf_X6_12 C hW k_x0 er_7 dX6_standsOn_18 (fun k_r_7 => ?_)
    refine gf_X6_52 C hW k_r_7 dX6_standsOn_21 ?_
    refine lv_iadd C.1 C.2.1 dX6_standsOn_24 ?_
    exact x_iret C rfl rfl hW hZ hkm hE dX6_standsOn_25
theorem m_144 : Cond.fieldLink RX6 164 (TX1 20).1 (TX1 20).2.1 (TX1 20).2.2.1 ∈ W0 := w0_in (List.mem_append_right _ (List.mem_of_getElem? (i := 144) (by decide +kernel))) rfl
section
variable {p : Program} {l : Launch} {e : Env} {R : Room} {s : State} {m : MethodId} {args : Array Value} {below : List Frame} {meth : Method} {c : Code} {H : Heap} {locs : List Loc} {cells slots : Nat} {Q : State → Prop}
variable {cc : ByteArray} {pc : Nat} {ls : Array Slot} {rest : List Value} {X : Ec} {h h1 : Hp} {nL : Nat} {rt : Option FieldType} {mn : String}
theorem gf_X6_164 {a r : Nat} (C : Cx X p s m args meth c RX6 cc nL rt mn) (hW : Wx X h H) (ha : hK h a = 1) (hr : hR h a 20 = some r) (hdg : decode cc pc = .ok (.getfield 164, 3)) (kk : hK h r = 17 → W p l e R s m args below meth c H locs cells slots Q (F0 m (pc + 3) ls (.ref r :: rest))) : W p l e R s m args below meth c H locs cells slots Q (F0 m pc ls (.ref a :: rest)) :=
  y_getr C hW ha i_X1 (by decide) rfl (by decide) m_144 rfl rfl hr hdg kk
end
theorem dX6_isWrittenFirst_0 : decode cX6_isWrittenFirst 0 = .ok (.aload_n 0, 1) := by decide +kernel
theorem dX6_isWrittenFirst_1 : decode cX6_isWrittenFirst 1 = .ok (.getfield 25, 3) := by decide +kernel
theorem dX6_isWrittenFirst_4 : decode cX6_isWrittenFirst 4 = .ok (.getfield 164, 3) := by decide +kernel
theorem dX6_isWrittenFirst_7 : decode cX6_isWrittenFirst 7 = .ok (.iload_n 1, 1) := by decide +kernel
theorem dX6_isWrittenFirst_8 : decode cX6_isWrittenFirst 8 = .ok (.iaload, 1) := by decide +kernel
theorem dX6_isWrittenFirst_9 : decode cX6_isWrittenFirst 9 = .ok (.aload_n 0, 1) := by decide +kernel
theorem dX6_isWrittenFirst_10 : decode cX6_isWrittenFirst 10 = .ok (.getfield 25, 3) := by decide +kernel
theorem dX6_isWrittenFirst_13 : decode cX6_isWrittenFirst 13 = .ok (.getfield 164, 3) := by decide +kernel
theorem dX6_isWrittenFirst_16 : decode cX6_isWrittenFirst 16 = .ok (.iload_n 2, 1) := by decide +kernel
theorem dX6_isWrittenFirst_17 : decode cX6_isWrittenFirst 17 = .ok (.iaload, 1) := by decide +kernel
theorem dX6_isWrittenFirst_18 : decode cX6_isWrittenFirst 18 = .ok (.if_icmp .gt 29, 3) := by decide +kernel
theorem dX6_isWrittenFirst_21 : decode cX6_isWrittenFirst 21 = .ok (.aload_n 0, 1) := by decide +kernel
theorem dX6_isWrittenFirst_22 : decode cX6_isWrittenFirst 22 = .ok (.getfield 25, 3) := by decide +kernel
theorem dX6_isWrittenFirst_25 : decode cX6_isWrittenFirst 25 = .ok (.getfield 164, 3) := by decide +kernel
theorem dX6_isWrittenFirst_28 : decode cX6_isWrittenFirst 28 = .ok (.iload_n 1, 1) := by decide +kernel
theorem dX6_isWrittenFirst_29 : decode cX6_isWrittenFirst 29 = .ok (.iaload, 1) := by decide +kernel
theorem dX6_isWrittenFirst_30 : decode cX6_isWrittenFirst 30 = .ok (.aload_n 0, 1) := by decide +kernel
theorem dX6_isWrittenFirst_31 : decode cX6_isWrittenFirst 31 = .ok (.getfield 25, 3) := by decide +kernel
theorem dX6_isWrittenFirst_34 : decode cX6_isWrittenFirst 34 = .ok (.getfield 164, 3) := by decide +kernel
theorem dX6_isWrittenFirst_37 : decode cX6_isWrittenFirst 37 = .ok (.iload_n 2, 1) := by decide +kernel
theorem dX6_isWrittenFirst_38 : decode cX6_isWrittenFirst 38 = .ok (.iaload, 1) := by decide +kernel
theorem dX6_isWrittenFirst_39 : decode cX6_isWrittenFirst 39 = .ok (.if_icmp .ne 12, 3) := by decide +kernel
theorem dX6_isWrittenFirst_42 : decode cX6_isWrittenFirst 42 = .ok (.iload_n 1, 1) := by decide +kernel
theorem dX6_isWrittenFirst_43 : decode cX6_isWrittenFirst 43 = .ok (.iload_n 2, 1) := by decide +kernel
theorem dX6_isWrittenFirst_44 : decode cX6_isWrittenFirst 44 = .ok (.if_icmp .ge 7, 3) := by decide +kernel
theorem dX6_isWrittenFirst_47 : decode cX6_isWrittenFirst 47 = .ok (.iconst 1, 1) := by decide +kernel
theorem dX6_isWrittenFirst_48 : decode cX6_isWrittenFirst 48 = .ok (.goto 4, 3) := by decide +kernel
theorem dX6_isWrittenFirst_51 : decode cX6_isWrittenFirst 51 = .ok (.iconst 0, 1) := by decide +kernel
theorem dX6_isWrittenFirst_52 : decode cX6_isWrittenFirst 52 = .ok (.ireturn, 1) := by decide +kernel
def sX6_isWrittenFirst_52 (h : Hp) (t0 : Int32) : Option (Int32 × Hp) := gd (t0 &&& 1 = t0) <| some (t0, h)
def sX6_isWrittenFirst_47 (h : Hp) : Option (Int32 × Hp) := sX6_isWrittenFirst_52  h (1 : Int32)
def sX6_isWrittenFirst_51 (h : Hp) : Option (Int32 × Hp) := sX6_isWrittenFirst_52  h (0 : Int32)
def sX6_isWrittenFirst (h : Hp) (x0 : Nat) (x1 : Int32) (x2 : Int32) : Option (Int32 × Hp) := cl (hR h x0 0) fun r_1 => cl (hR h r_1 20) fun r_2 => gd (inB x1 (hN h r_2)) <| cl (hR h x0 0) fun r_4 => cl (hR h r_4 20) fun r_5 => gd (inB x2 (hN h r_5)) <| br ((hI h r_5 x2.toNatClampNeg) < (hI h r_2 x1.toNatClampNeg)) (sX6_isWrittenFirst_47  h ) (cl (hR h x0 0) fun r_8 => cl (hR h r_8 20) fun r_9 => gd (inB x1 (hN h r_9)) <| cl (hR h x0 0) fun r_11 => cl (hR h r_11 20) fun r_12 => gd (inB x2 (hN h r_12)) <| br ((hI h r_9 x1.toNatClampNeg) = (hI h r_12 x2.toNatClampNeg)) (br (x2 ≤ x1) (sX6_isWrittenFirst_51  h ) (sX6_isWrittenFirst_47  h )) (sX6_isWrittenFirst_51  h ))
set_option maxRecDepth 20000 in
theorem bX6_isWrittenFirst_52 {p : Program} {l : Launch} {e : Env} {s : State} {m : MethodId} {args : Array Value} {below : List Frame} {meth : Method} {c : Code} {X : Ec} {h0 : Hp} {o : Int32 × Hp} (C : Cx X p s m args meth c RX6 cX6_isWrittenFirst 3 (some .boolean) "isWrittenFirst") {h : Hp} {t0 : Int32} {H : Heap} {locs : List Loc} (hkm : Km h0 h) (hW : Wx X h H) (hZ : va_S (aA (eB X)) s.heap H locs) (ls : Array Slot) (hl : lv_has ls 3 []) (hE : sX6_isWrittenFirst_52 h  t0 = some o) : W p l e (rm 0 0) s m args below meth c H locs 0 0 (MQ below (QI X h0 o.1 o.2) args s 0 0 (aA (eB X))) (F0 m 52 ls [.int t0]) := by
  obtain ⟨g_1, hE⟩ := gd_e hE
  exact x_iret C rfl (narB g_1) hW hZ hkm hE dX6_isWrittenFirst_52
set_option maxRecDepth 20000 in
theorem bX6_isWrittenFirst_47 {p : Program} {l : Launch} {e : Env} {s : State} {m : MethodId} {args : Array Value} {below : List Frame} {meth : Method} {c : Code} {X : Ec} {h0 : Hp} {o : Int32 × Hp} (C : Cx X p s m args meth c RX6 cX6_isWrittenFirst 3 (some .boolean) "isWrittenFirst") {h : Hp} {H : Heap} {locs : List Loc} (hkm : Km h0 h) (hW : Wx X h H) (hZ : va_S (aA (eB X)) s.heap H locs) (ls : Array Slot) (hl : lv_has ls 3 []) (hE : sX6_isWrittenFirst_47 h  = some o) : W p l e (rm 0 0) s m args below meth c H locs 0 0 (MQ below (QI X h0 o.1 o.2) args s 0 0 (aA (eB X))) (F0 m 47 ls []) := by
  refine lv_iconst (v := (1 : Int32)) C.1 C.2.1 dX6_isWrittenFirst_47 (by decide) ?_
  refine lv_goto (tgt := 52) C.1 C.2.1 dX6_isWrittenFirst_48 (by decide) ?_
  exact bX6_isWrittenFirst_52 C hkm hW hZ _ (lv_sub hl [] rfl) hE
set_option maxRecDepth 20000 in
theorem bX6_isWrittenFirst_51 {p : Program} {l : Launch} {e : Env} {s : State} {m : MethodId} {args : Array Value} {below : List Frame} {meth : Method} {c : Code} {X : Ec} {h0 : Hp} {o : Int32 × Hp} (C : Cx X p s m args meth c RX6 cX6_isWrittenFirst 3 (some .boolean) "isWrittenFirst") {h : Hp} {H : Heap} {locs : List Loc} (hkm : Km h0 h) (hW : Wx X h H) (hZ : va_S (aA (eB X)) s.heap H locs) (ls : Array Slot) (hl : lv_has ls 3 []) (hE : sX6_isWrittenFirst_51 h  = some o) : W p l e (rm 0 0) s m args below meth c H locs 0 0 (MQ below (QI X h0 o.1 o.2) args s 0 0 (aA (eB X))) (F0 m 51 ls []) := by
  refine lv_iconst (v := (0 : Int32)) C.1 C.2.1 dX6_isWrittenFirst_51 (by decide) ?_
  exact bX6_isWrittenFirst_52 C hkm hW hZ _ (lv_sub hl [] rfl) hE
set_option maxRecDepth 20000 in
theorem ct_X6_isWrittenFirst (l : Launch) (X : Ec) {h : Hp} {x0 : Nat} {x1 : Int32} {x2 : Int32} {o : Int32 × Hp} (k_x0 : hK h x0 = 6) (hE : sX6_isWrittenFirst h x0 x1 x2 = some o) : MetI l yX6_isWrittenFirst cX6_isWrittenFirst 3 (some .boolean) 0 0 X [.ref x0, .int x1, .int x2] h o := by
  refine x_met (by decide) (Nat.le_of_ble_eq_true rfl) ?_
  intro p e s m below meth c ls C hl hW hZ
  have hl : lv_has ls 3 [(0, .ref x0), (1, .int x1), (2, .int x2)] := hl
  have hkm : Km h h := Km.rf h
  refine lv_aload_n C.1 C.2.1 dX6_isWrittenFirst_0 rfl (lv_at hl 0 rfl) ?_
  obtain ⟨r_1, er_1, hE⟩ := cl_e hE
  refine gf_X6_25 C hW k_x0 er_1 dX6_isWrittenFirst_1 (fun k_r_1 => ?_)
  obtain ⟨r_2, er_2, hE⟩ := cl_e hE
  refine gf_X6_164 C hW k_r_1 er_2 dX6_isWrittenFirst_4 (fun k_r_2 => ?_)
  refine lv_iload_n C.1 C.2.1 dX6_isWrittenFirst_7 rfl (lv_at hl 1 rfl) ?_
  obtain ⟨g_3, hE⟩ := gd_e hE
  refine y_iald C hW k_r_2 g_3 dX6_isWrittenFirst_8 ?_
  refine lv_aload_n C.1 C.2.1 dX6_isWrittenFirst_9 rfl (lv_at hl 0 rfl) ?_
  obtain ⟨r_4, er_4, hE⟩ := cl_e hE
  refine gf_X6_25 C hW k_x0 er_4 dX6_isWrittenFirst_10 (fun k_r_4 => ?_)
  obtain ⟨r_5, er_5, hE⟩ := cl_e hE
  refine gf_X6_164 C hW k_r_4 er_5 dX6_isWrittenFirst_13 (fun k_r_5 => ?_)
  refine lv_iload_n C.1 C.2.1 dX6_isWrittenFirst_16 rfl (lv_at hl 2 rfl) ?_
  obtain ⟨g_6, hE⟩ := gd_e hE
  refine y_iald C hW k_r_5 g_6 dX6_isWrittenFirst_17 ?_
  refine lv_icmp_gt (tgt := 47) C.1 C.2.1 dX6_isWrittenFirst_18 (by decide) (fun c_7 => ?_) (fun c_7 => ?_)
  · have hE := br_p hE c_7
    exact bX6_isWrittenFirst_47 C hkm hW hZ _ (lv_sub hl [] rfl) hE
  · have hE := br_n hE c_7
    refine lv_aload_n C.1 C.2.1 dX6_isWrittenFirst_21 rfl (lv_at hl 0 rfl) ?_
    obtain ⟨r_8, er_8, hE⟩ := cl_e hE
    refine gf_X6_25 C hW k_x0 er_8 dX6_isWrittenFirst_22 (fun k_r_8 => ?_)
    obtain ⟨r_9, er_9, hE⟩ := cl_e hE
    refine gf_X6_164 C hW k_r_8 er_9 dX6_isWrittenFirst_25 (fun k_r_9 => ?_)
    refine lv_iload_n C.1 C.2.1 dX6_isWrittenFirst_28 rfl (lv_at hl 1 rfl) ?_
    obtain ⟨g_10, hE⟩ := gd_e hE
    refine y_iald C hW k_r_9 g_10 dX6_isWrittenFirst_29 ?_
    refine lv_aload_n C.1 C.2.1 dX6_isWrittenFirst_30 rfl (lv_at hl 0 rfl) ?_
    obtain ⟨r_11, er_11, hE⟩ := cl_e hE
    refine gf_X6_25 C hW k_x0 er_11 dX6_isWrittenFirst_31 (fun k_r_11 => ?_)
    obtain ⟨r_12, er_12, hE⟩ := cl_e hE
    refine gf_X6_164 C hW k_r_11 er_12 dX6_isWrittenFirst_34 (fun k_r_12 => ?_)
    refine lv_iload_n C.1 C.2.1 dX6_isWrittenFirst_37 rfl (lv_at hl 2 rfl) ?_
    obtain ⟨g_13, hE⟩ := gd_e hE
    refine y_iald C hW k_r_12 g_13 dX6_isWrittenFirst_38 ?_
    refine lv_icmp_ne (tgt := 51) C.1 C.2.1 dX6_isWrittenFirst_39 (by decide) (fun c_14 => ?_) (fun c_14 => ?_)
    · have hE := br_n hE c_14
      exact bX6_isWrittenFirst_51 C hkm hW hZ _ (lv_sub hl [] rfl) hE
    · have hE := br_p hE c_14
      refine lv_iload_n C.1 C.2.1 dX6_isWrittenFirst_42 rfl (lv_at hl 1 rfl) ?_
      refine lv_iload_n C.1 C.2.1 dX6_isWrittenFirst_43 rfl (lv_at hl 2 rfl) ?_
      refine lv_icmp_ge (tgt := 51) C.1 C.2.1 dX6_isWrittenFirst_44 (by decide) (fun c_15 => ?_) (fun c_15 => ?_)
      · have hE := br_p hE c_15
        exact bX6_isWrittenFirst_51 C hkm hW hZ _ (lv_sub hl [] rfl) hE
      · have hE := br_n hE c_15
        exact bX6_isWrittenFirst_47 C hkm hW hZ _ (lv_sub hl [] rfl) hE
theorem ms_88 : Cond.selects RX6 yX6_isWrittenFirst yX6_isWrittenFirst ∈ W0 := w0_in (List.mem_append_left _ (List.mem_of_getElem? (i := 88) (by decide +kernel))) rfl
theorem ms_87 : Cond.selects RX6 yX6_standsOn yX6_standsOn ∈ W0 := w0_in (List.mem_append_left _ (List.mem_of_getElem? (i := 87) (by decide +kernel))) rfl
theorem m_138 : Cond.fieldLink RX6 161 (TX1 19).1 (TX1 19).2.1 (TX1 19).2.2.1 ∈ W0 := w0_in (List.mem_append_right _ (List.mem_of_getElem? (i := 138) (by decide +kernel))) rfl
theorem m_1587 : Cond.methodLink RX6 151 yX6_standsOn ∈ W0 := w0_in (List.mem_append_right _ (List.mem_of_getElem? (i := 1587) (by decide +kernel))) rfl
theorem m_1589 : Cond.instanceMethod yX6_standsOn ∈ W0 := w0_in (List.mem_append_right _ (List.mem_of_getElem? (i := 1589) (by decide +kernel))) rfl
theorem m_1590 : Cond.code yX6_standsOn cX6_standsOn 3 (some .int) ∈ W0 := w0_in (List.mem_append_right _ (List.mem_of_getElem? (i := 1590) (by decide +kernel))) rfl
theorem m_1591 : Cond.methodLink RX6 155 yX6_isWrittenFirst ∈ W0 := w0_in (List.mem_append_right _ (List.mem_of_getElem? (i := 1591) (by decide +kernel))) rfl
theorem m_1593 : Cond.instanceMethod yX6_isWrittenFirst ∈ W0 := w0_in (List.mem_append_right _ (List.mem_of_getElem? (i := 1593) (by decide +kernel))) rfl
theorem m_1594 : Cond.code yX6_isWrittenFirst cX6_isWrittenFirst 3 (some .boolean) ∈ W0 := w0_in (List.mem_append_right _ (List.mem_of_getElem? (i := 1594) (by decide +kernel))) rfl
theorem m_1595 : Cond.methodLink RX6 158 yX1_letterOf ∈ W0 := w0_in (List.mem_append_right _ (List.mem_of_getElem? (i := 1595) (by decide +kernel))) rfl
section
variable {p : Program} {l : Launch} {e : Env} {R : Room} {s : State} {m : MethodId} {args : Array Value} {below : List Frame} {meth : Method} {c : Code} {H : Heap} {locs : List Loc} {cells slots : Nat} {Q : State → Prop}
variable {cc : ByteArray} {pc : Nat} {ls : Array Slot} {rest : List Value} {X : Ec} {h h1 : Hp} {nL : Nat} {rt : Option FieldType} {mn : String}
theorem gf_X6_161 {a r : Nat} (C : Cx X p s m args meth c RX6 cc nL rt mn) (hW : Wx X h H) (ha : hK h a = 1) (hr : hR h a 19 = some r) (hdg : decode cc pc = .ok (.getfield 161, 3)) (kk : hK h r = 17 → W p l e R s m args below meth c H locs cells slots Q (F0 m (pc + 3) ls (.ref r :: rest))) : W p l e R s m args below meth c H locs cells slots Q (F0 m pc ls (.ref a :: rest)) :=
  y_getr C hW ha i_X1 (by decide) rfl (by decide) m_138 rfl rfl hr hdg kk
end
theorem cw_X6_151 : cwd RX6 151 yX6_standsOn cX6_standsOn 3 (some .int) false 2 := ⟨m_1590, m_1587, m_12, ⟨m_1589, ms_87⟩, by decide, by decide, by decide +kernel⟩
theorem cw_X6_155 : cwd RX6 155 yX6_isWrittenFirst cX6_isWrittenFirst 3 (some .boolean) false 2 := ⟨m_1594, m_1591, m_12, ⟨m_1593, ms_88⟩, by decide, by decide, by decide +kernel⟩
theorem cw_X6_158 : cwd RX6 158 yX1_letterOf cX1_letterOf 3 (some .int) false 1 := ⟨m_1127, m_1595, m_4, ⟨m_1125, m_1126⟩, by decide, by decide, by decide +kernel⟩
theorem dX6_comesFirst_0 : decode cX6_comesFirst 0 = .ok (.iconst (-1), 1) := by decide +kernel
theorem dX6_comesFirst_1 : decode cX6_comesFirst 1 = .ok (.istore_n 3, 1) := by decide +kernel
theorem dX6_comesFirst_2 : decode cX6_comesFirst 2 = .ok (.iconst 0, 1) := by decide +kernel
theorem dX6_comesFirst_3 : decode cX6_comesFirst 3 = .ok (.istore 4, 2) := by decide +kernel
theorem dX6_comesFirst_5 : decode cX6_comesFirst 5 = .ok (.iload 4, 2) := by decide +kernel
theorem dX6_comesFirst_7 : decode cX6_comesFirst 7 = .ok (.iconst 4, 1) := by decide +kernel
theorem dX6_comesFirst_8 : decode cX6_comesFirst 8 = .ok (.if_icmp .ge 80, 3) := by decide +kernel
theorem dX6_comesFirst_11 : decode cX6_comesFirst 11 = .ok (.iload 4, 2) := by decide +kernel
theorem dX6_comesFirst_13 : decode cX6_comesFirst 13 = .ok (.iconst 2, 1) := by decide +kernel
theorem dX6_comesFirst_14 : decode cX6_comesFirst 14 = .ok (.if_icmp .ge 7, 3) := by decide +kernel
theorem dX6_comesFirst_17 : decode cX6_comesFirst 17 = .ok (.iload_n 1, 1) := by decide +kernel
theorem dX6_comesFirst_18 : decode cX6_comesFirst 18 = .ok (.goto 4, 3) := by decide +kernel
theorem dX6_comesFirst_21 : decode cX6_comesFirst 21 = .ok (.iload_n 2, 1) := by decide +kernel
theorem dX6_comesFirst_22 : decode cX6_comesFirst 22 = .ok (.bipush 6, 2) := by decide +kernel
theorem dX6_comesFirst_24 : decode cX6_comesFirst 24 = .ok (.iload 4, 2) := by decide +kernel
theorem dX6_comesFirst_26 : decode cX6_comesFirst 26 = .ok (.iconst 1, 1) := by decide +kernel
theorem dX6_comesFirst_27 : decode cX6_comesFirst 27 = .ok (.iand, 1) := by decide +kernel
theorem dX6_comesFirst_28 : decode cX6_comesFirst 28 = .ok (.imul, 1) := by decide +kernel
theorem dX6_comesFirst_29 : decode cX6_comesFirst 29 = .ok (.ishr, 1) := by decide +kernel
theorem dX6_comesFirst_30 : decode cX6_comesFirst 30 = .ok (.bipush 63, 2) := by decide +kernel
theorem dX6_comesFirst_32 : decode cX6_comesFirst 32 = .ok (.iand, 1) := by decide +kernel
theorem dX6_comesFirst_33 : decode cX6_comesFirst 33 = .ok (.istore 5, 2) := by decide +kernel
theorem dX6_comesFirst_35 : decode cX6_comesFirst 35 = .ok (.aload_n 0, 1) := by decide +kernel
theorem dX6_comesFirst_36 : decode cX6_comesFirst 36 = .ok (.iload_n 1, 1) := by decide +kernel
theorem dX6_comesFirst_37 : decode cX6_comesFirst 37 = .ok (.iload 5, 2) := by decide +kernel
theorem dX6_comesFirst_39 : decode cX6_comesFirst 39 = .ok (.invokevirtual 151, 3) := by decide +kernel
theorem dX6_comesFirst_42 : decode cX6_comesFirst 42 = .ok (.aload_n 0, 1) := by decide +kernel
theorem dX6_comesFirst_43 : decode cX6_comesFirst 43 = .ok (.iload_n 2, 1) := by decide +kernel
theorem dX6_comesFirst_44 : decode cX6_comesFirst 44 = .ok (.iload 5, 2) := by decide +kernel
theorem dX6_comesFirst_46 : decode cX6_comesFirst 46 = .ok (.invokevirtual 151, 3) := by decide +kernel
theorem dX6_comesFirst_49 : decode cX6_comesFirst 49 = .ok (.if_icmp .eq 7, 3) := by decide +kernel
theorem dX6_comesFirst_52 : decode cX6_comesFirst 52 = .ok (.iconst 1, 1) := by decide +kernel
theorem dX6_comesFirst_53 : decode cX6_comesFirst 53 = .ok (.goto 4, 3) := by decide +kernel
theorem dX6_comesFirst_56 : decode cX6_comesFirst 56 = .ok (.iconst 0, 1) := by decide +kernel
theorem dX6_comesFirst_57 : decode cX6_comesFirst 57 = .ok (.istore 6, 2) := by decide +kernel
theorem dX6_comesFirst_59 : decode cX6_comesFirst 59 = .ok (.iload 6, 2) := by decide +kernel
theorem dX6_comesFirst_61 : decode cX6_comesFirst 61 = .ok (.ifCond .eq 21, 3) := by decide +kernel
theorem dX6_comesFirst_64 : decode cX6_comesFirst 64 = .ok (.iload_n 3, 1) := by decide +kernel
theorem dX6_comesFirst_65 : decode cX6_comesFirst 65 = .ok (.iconst (-1), 1) := by decide +kernel
theorem dX6_comesFirst_66 : decode cX6_comesFirst 66 = .ok (.if_icmp .eq 13, 3) := by decide +kernel
theorem dX6_comesFirst_69 : decode cX6_comesFirst 69 = .ok (.aload_n 0, 1) := by decide +kernel
theorem dX6_comesFirst_70 : decode cX6_comesFirst 70 = .ok (.iload 5, 2) := by decide +kernel
theorem dX6_comesFirst_72 : decode cX6_comesFirst 72 = .ok (.iload_n 3, 1) := by decide +kernel
theorem dX6_comesFirst_73 : decode cX6_comesFirst 73 = .ok (.invokevirtual 155, 3) := by decide +kernel
theorem dX6_comesFirst_76 : decode cX6_comesFirst 76 = .ok (.ifCond .eq 6, 3) := by decide +kernel
theorem dX6_comesFirst_79 : decode cX6_comesFirst 79 = .ok (.iload 5, 2) := by decide +kernel
theorem dX6_comesFirst_81 : decode cX6_comesFirst 81 = .ok (.istore_n 3, 1) := by decide +kernel
theorem dX6_comesFirst_82 : decode cX6_comesFirst 82 = .ok (.iinc 4 1, 3) := by decide +kernel
theorem dX6_comesFirst_85 : decode cX6_comesFirst 85 = .ok (.goto (-80), 3) := by decide +kernel
theorem dX6_comesFirst_88 : decode cX6_comesFirst 88 = .ok (.iload_n 3, 1) := by decide +kernel
theorem dX6_comesFirst_89 : decode cX6_comesFirst 89 = .ok (.iconst (-1), 1) := by decide +kernel
theorem dX6_comesFirst_90 : decode cX6_comesFirst 90 = .ok (.if_icmp .ne 5, 3) := by decide +kernel
theorem dX6_comesFirst_93 : decode cX6_comesFirst 93 = .ok (.iconst 0, 1) := by decide +kernel
theorem dX6_comesFirst_94 : decode cX6_comesFirst 94 = .ok (.ireturn, 1) := by decide +kernel
theorem dX6_comesFirst_95 : decode cX6_comesFirst 95 = .ok (.aload_n 0, 1) := by decide +kernel
theorem dX6_comesFirst_96 : decode cX6_comesFirst 96 = .ok (.iload_n 1, 1) := by decide +kernel
theorem dX6_comesFirst_97 : decode cX6_comesFirst 97 = .ok (.iload_n 3, 1) := by decide +kernel
theorem dX6_comesFirst_98 : decode cX6_comesFirst 98 = .ok (.invokevirtual 151, 3) := by decide +kernel
theorem dX6_comesFirst_101 : decode cX6_comesFirst 101 = .ok (.istore 4, 2) := by decide +kernel
theorem dX6_comesFirst_103 : decode cX6_comesFirst 103 = .ok (.aload_n 0, 1) := by decide +kernel
theorem dX6_comesFirst_104 : decode cX6_comesFirst 104 = .ok (.iload_n 2, 1) := by decide +kernel
theorem dX6_comesFirst_105 : decode cX6_comesFirst 105 = .ok (.iload_n 3, 1) := by decide +kernel
theorem dX6_comesFirst_106 : decode cX6_comesFirst 106 = .ok (.invokevirtual 151, 3) := by decide +kernel
theorem dX6_comesFirst_109 : decode cX6_comesFirst 109 = .ok (.istore 5, 2) := by decide +kernel
theorem dX6_comesFirst_111 : decode cX6_comesFirst 111 = .ok (.iload 4, 2) := by decide +kernel
theorem dX6_comesFirst_113 : decode cX6_comesFirst 113 = .ok (.iconst (-1), 1) := by decide +kernel
theorem dX6_comesFirst_114 : decode cX6_comesFirst 114 = .ok (.if_icmp .eq 36, 3) := by decide +kernel
theorem dX6_comesFirst_117 : decode cX6_comesFirst 117 = .ok (.iload 5, 2) := by decide +kernel
theorem dX6_comesFirst_119 : decode cX6_comesFirst 119 = .ok (.iconst (-1), 1) := by decide +kernel
theorem dX6_comesFirst_120 : decode cX6_comesFirst 120 = .ok (.if_icmp .eq 30, 3) := by decide +kernel
theorem dX6_comesFirst_123 : decode cX6_comesFirst 123 = .ok (.aload_n 0, 1) := by decide +kernel
theorem dX6_comesFirst_124 : decode cX6_comesFirst 124 = .ok (.getfield 25, 3) := by decide +kernel
theorem dX6_comesFirst_127 : decode cX6_comesFirst 127 = .ok (.iload 4, 2) := by decide +kernel
theorem dX6_comesFirst_129 : decode cX6_comesFirst 129 = .ok (.invokevirtual 158, 3) := by decide +kernel
theorem dX6_comesFirst_132 : decode cX6_comesFirst 132 = .ok (.aload_n 0, 1) := by decide +kernel
theorem dX6_comesFirst_133 : decode cX6_comesFirst 133 = .ok (.getfield 25, 3) := by decide +kernel
theorem dX6_comesFirst_136 : decode cX6_comesFirst 136 = .ok (.iload 5, 2) := by decide +kernel
theorem dX6_comesFirst_138 : decode cX6_comesFirst 138 = .ok (.invokevirtual 158, 3) := by decide +kernel
theorem dX6_comesFirst_141 : decode cX6_comesFirst 141 = .ok (.if_icmp .ge 7, 3) := by decide +kernel
theorem dX6_comesFirst_144 : decode cX6_comesFirst 144 = .ok (.iconst 1, 1) := by decide +kernel
theorem dX6_comesFirst_145 : decode cX6_comesFirst 145 = .ok (.goto 4, 3) := by decide +kernel
theorem dX6_comesFirst_148 : decode cX6_comesFirst 148 = .ok (.iconst 0, 1) := by decide +kernel
theorem dX6_comesFirst_149 : decode cX6_comesFirst 149 = .ok (.ireturn, 1) := by decide +kernel
theorem dX6_comesFirst_150 : decode cX6_comesFirst 150 = .ok (.aload_n 0, 1) := by decide +kernel
theorem dX6_comesFirst_151 : decode cX6_comesFirst 151 = .ok (.getfield 25, 3) := by decide +kernel
theorem dX6_comesFirst_154 : decode cX6_comesFirst 154 = .ok (.getfield 161, 3) := by decide +kernel
theorem dX6_comesFirst_157 : decode cX6_comesFirst 157 = .ok (.iload_n 3, 1) := by decide +kernel
theorem dX6_comesFirst_158 : decode cX6_comesFirst 158 = .ok (.iaload, 1) := by decide +kernel
theorem dX6_comesFirst_159 : decode cX6_comesFirst 159 = .ok (.ifCond .le 19, 3) := by decide +kernel
theorem dX6_comesFirst_162 : decode cX6_comesFirst 162 = .ok (.aload_n 0, 1) := by decide +kernel
theorem dX6_comesFirst_163 : decode cX6_comesFirst 163 = .ok (.iload_n 1, 1) := by decide +kernel
theorem dX6_comesFirst_164 : decode cX6_comesFirst 164 = .ok (.iload_n 3, 1) := by decide +kernel
theorem dX6_comesFirst_165 : decode cX6_comesFirst 165 = .ok (.iconst 1, 1) := by decide +kernel
theorem dX6_comesFirst_166 : decode cX6_comesFirst 166 = .ok (.isub, 1) := by decide +kernel
theorem dX6_comesFirst_167 : decode cX6_comesFirst 167 = .ok (.invokevirtual 151, 3) := by decide +kernel
theorem dX6_comesFirst_170 : decode cX6_comesFirst 170 = .ok (.iconst (-1), 1) := by decide +kernel
theorem dX6_comesFirst_171 : decode cX6_comesFirst 171 = .ok (.if_icmp .ne 7, 3) := by decide +kernel
theorem dX6_comesFirst_174 : decode cX6_comesFirst 174 = .ok (.iconst 1, 1) := by decide +kernel
theorem dX6_comesFirst_175 : decode cX6_comesFirst 175 = .ok (.goto 4, 3) := by decide +kernel
theorem dX6_comesFirst_178 : decode cX6_comesFirst 178 = .ok (.iconst 0, 1) := by decide +kernel
theorem dX6_comesFirst_179 : decode cX6_comesFirst 179 = .ok (.istore 6, 2) := by decide +kernel
theorem dX6_comesFirst_181 : decode cX6_comesFirst 181 = .ok (.iload 4, 2) := by decide +kernel
theorem dX6_comesFirst_183 : decode cX6_comesFirst 183 = .ok (.iconst (-1), 1) := by decide +kernel
theorem dX6_comesFirst_184 : decode cX6_comesFirst 184 = .ok (.if_icmp .ne 7, 3) := by decide +kernel
theorem dX6_comesFirst_187 : decode cX6_comesFirst 187 = .ok (.iconst 1, 1) := by decide +kernel
theorem dX6_comesFirst_188 : decode cX6_comesFirst 188 = .ok (.goto 4, 3) := by decide +kernel
theorem dX6_comesFirst_191 : decode cX6_comesFirst 191 = .ok (.iconst 0, 1) := by decide +kernel
theorem dX6_comesFirst_192 : decode cX6_comesFirst 192 = .ok (.iload 6, 2) := by decide +kernel
theorem dX6_comesFirst_194 : decode cX6_comesFirst 194 = .ok (.if_icmp .eq 7, 3) := by decide +kernel
theorem dX6_comesFirst_197 : decode cX6_comesFirst 197 = .ok (.iconst 1, 1) := by decide +kernel
theorem dX6_comesFirst_198 : decode cX6_comesFirst 198 = .ok (.goto 4, 3) := by decide +kernel
theorem dX6_comesFirst_201 : decode cX6_comesFirst 201 = .ok (.iconst 0, 1) := by decide +kernel
theorem dX6_comesFirst_202 : decode cX6_comesFirst 202 = .ok (.ireturn, 1) := by decide +kernel
def sX6_comesFirst_202 (F : Nat) (h : Hp) (t0 : Int32) : Option (Int32 × Hp) := gd (t0 &&& 1 = t0) <| some (t0, h)
def sX6_comesFirst_192 (F : Nat) (h : Hp) (x6 : Int32) (t0 : Int32) : Option (Int32 × Hp) := br (t0 = x6) (sX6_comesFirst_202 F h (0 : Int32)) (sX6_comesFirst_202 F h (1 : Int32))
def sX6_comesFirst_179 (F : Nat) (h : Hp) (x4 : Int32) (t0 : Int32) : Option (Int32 × Hp) := br (x4 = (-1 : Int32)) (sX6_comesFirst_192 F h t0 (1 : Int32)) (sX6_comesFirst_192 F h t0 (0 : Int32))
def sX6_comesFirst_178 (F : Nat) (h : Hp) (x4 : Int32) : Option (Int32 × Hp) := sX6_comesFirst_179 F h x4 (0 : Int32)
def sX6_comesFirst_150 (F : Nat) (h : Hp) (x0 : Nat) (x1 : Int32) (x3 : Int32) (x4 : Int32) : Option (Int32 × Hp) := cl (hR h x0 0) fun r_1 => cl (hR h r_1 19) fun r_2 => gd (inB x3 (hN h r_2)) <| br ((hI h r_2 x3.toNatClampNeg) ≤ 0) (sX6_comesFirst_178 F h x4) (cl (sX6_standsOn h x0 x1 (x3 - (1 : Int32))) fun o_5 => br (o_5.1 = (-1 : Int32)) (sX6_comesFirst_179 F o_5.2 x4 (1 : Int32)) (sX6_comesFirst_178 F o_5.2 x4))
def sX6_comesFirst_149 (F : Nat) (h : Hp) (t0 : Int32) : Option (Int32 × Hp) := gd (t0 &&& 1 = t0) <| some (t0, h)
def sX6_comesFirst_82 (F : Nat) (k_5 : Hp → Nat → Int32 → Int32 → Int32 → Int32 → Option (Int32 × Hp)) (h : Hp) (x0 : Nat) (x1 : Int32) (x2 : Int32) (x3 : Int32) (x4 : Int32) : Option (Int32 × Hp) := nm (x4 + (1 : Int32)) fun v_1 => k_5 h x0 x1 x2 x3 v_1
def sX6_comesFirst_79 (F : Nat) (k_5 : Hp → Nat → Int32 → Int32 → Int32 → Int32 → Option (Int32 × Hp)) (h : Hp) (x0 : Nat) (x1 : Int32) (x2 : Int32) (x4 : Int32) (x5 : Int32) : Option (Int32 × Hp) := sX6_comesFirst_82 F k_5 h x0 x1 x2 x5 x4
def sX6_comesFirst_57 (F : Nat) (k_5 : Hp → Nat → Int32 → Int32 → Int32 → Int32 → Option (Int32 × Hp)) (h : Hp) (x0 : Nat) (x1 : Int32) (x2 : Int32) (x3 : Int32) (x4 : Int32) (x5 : Int32) (t0 : Int32) : Option (Int32 × Hp) := br (t0 = 0) (sX6_comesFirst_82 F k_5 h x0 x1 x2 x3 x4) (br (x3 = (-1 : Int32)) (sX6_comesFirst_79 F k_5 h x0 x1 x2 x4 x5) (cl (sX6_isWrittenFirst h x0 x5 x3) fun o_3 => br (o_3.1 = 0) (sX6_comesFirst_82 F k_5 o_3.2 x0 x1 x2 x3 x4) (sX6_comesFirst_79 F k_5 o_3.2 x0 x1 x2 x4 x5)))
def sX6_comesFirst_22 (F : Nat) (k_5 : Hp → Nat → Int32 → Int32 → Int32 → Int32 → Option (Int32 × Hp)) (h : Hp) (x0 : Nat) (x1 : Int32) (x2 : Int32) (x3 : Int32) (x4 : Int32) (t0 : Int32) : Option (Int32 × Hp) := nm ((t0 >>> (((6 : Int32) * (x4 &&& (1 : Int32))) &&& 31)) &&& (63 : Int32)) fun v_1 => cl (sX6_standsOn h x0 x1 v_1) fun o_2 => cl (sX6_standsOn o_2.2 x0 x2 v_1) fun o_3 => br (o_2.1 = o_3.1) (sX6_comesFirst_57 F k_5 o_3.2 x0 x1 x2 x3 x4 v_1 (0 : Int32)) (sX6_comesFirst_57 F k_5 o_3.2 x0 x1 x2 x3 x4 v_1 (1 : Int32))
def sX6_comesFirst_5 (F : Nat) : Nat → Hp → Nat → Int32 → Int32 → Int32 → Int32 → Option (Int32 × Hp)
  | 0, _, _, _, _, _, _ => none
  | f + 1, h, x0, x1, x2, x3, x4 => br ((4 : Int32) ≤ x4) (br (x3 = (-1 : Int32)) (some ((0 : Int32), h)) (cl (sX6_standsOn h x0 x1 x3) fun o_3 => cl (sX6_standsOn o_3.2 x0 x2 x3) fun o_4 => br (o_3.1 = (-1 : Int32)) (sX6_comesFirst_150 F o_4.2 x0 x1 x3 o_3.1) (br (o_4.1 = (-1 : Int32)) (sX6_comesFirst_150 F o_4.2 x0 x1 x3 o_3.1) (cl (hR o_4.2 x0 0) fun r_7 => cl (sX1_letterOf o_4.2 r_7 o_3.1) fun o_8 => cl (hR o_8.2 x0 0) fun r_9 => cl (sX1_letterOf o_8.2 r_9 o_4.1) fun o_10 => br (o_10.1 ≤ o_8.1) (sX6_comesFirst_149 F o_10.2 (0 : Int32)) (sX6_comesFirst_149 F o_10.2 (1 : Int32)))))) (br ((2 : Int32) ≤ x4) (sX6_comesFirst_22 F (sX6_comesFirst_5 F f) h x0 x1 x2 x3 x4 x2) (sX6_comesFirst_22 F (sX6_comesFirst_5 F f) h x0 x1 x2 x3 x4 x1))
def sX6_comesFirst (F : Nat) (h : Hp) (x0 : Nat) (x1 : Int32) (x2 : Int32) : Option (Int32 × Hp) := sX6_comesFirst_5 F F h x0 x1 x2 (-1 : Int32) (0 : Int32)
set_option maxRecDepth 20000 in
theorem bX6_comesFirst_202 {p : Program} {l : Launch} {e : Env} {s : State} {m : MethodId} {args : Array Value} {below : List Frame} {meth : Method} {c : Code} {X : Ec} {h0 : Hp} {o : Int32 × Hp} {F : Nat} (C : Cx X p s m args meth c RX6 cX6_comesFirst 7 (some .boolean) "comesFirst") {h : Hp} {t0 : Int32} {H : Heap} {locs : List Loc} (hkm : Km h0 h) (hW : Wx X h H) (hZ : va_S (aA (eB X)) s.heap H locs) (ls : Array Slot) (hl : lv_has ls 7 []) (hE : sX6_comesFirst_202 F h  t0 = some o) : W p l e (rm 2 44) s m args below meth c H locs 0 0 (MQ below (QI X h0 o.1 o.2) args s 0 0 (aA (eB X))) (F0 m 202 ls [.int t0]) := by
  obtain ⟨g_1, hE⟩ := gd_e hE
  exact x_iret C rfl (narB g_1) hW hZ hkm hE dX6_comesFirst_202
set_option maxRecDepth 20000 in
theorem bX6_comesFirst_192 {p : Program} {l : Launch} {e : Env} {s : State} {m : MethodId} {args : Array Value} {below : List Frame} {meth : Method} {c : Code} {X : Ec} {h0 : Hp} {o : Int32 × Hp} {F : Nat} (C : Cx X p s m args meth c RX6 cX6_comesFirst 7 (some .boolean) "comesFirst") {h : Hp} {x6 : Int32} {t0 : Int32} {H : Heap} {locs : List Loc} (hkm : Km h0 h) (hW : Wx X h H) (hZ : va_S (aA (eB X)) s.heap H locs) (ls : Array Slot) (hl : lv_has ls 7 [(6, .int x6)]) (hE : sX6_comesFirst_192 F h x6 t0 = some o) : W p l e (rm 2 44) s m args below meth c H locs 0 0 (MQ below (QI X h0 o.1 o.2) args s 0 0 (aA (eB X))) (F0 m 192 ls [.int t0]) := by
  refine lv_iload C.1 C.2.1 dX6_comesFirst_192 (lv_at hl 0 rfl) ?_
  refine lv_icmp_eq (tgt := 201) C.1 C.2.1 dX6_comesFirst_194 (by decide) (fun c_1 => ?_) (fun c_1 => ?_)
  · have hE := br_p hE c_1
    refine lv_iconst (v := (0 : Int32)) C.1 C.2.1 dX6_comesFirst_201 (by decide) ?_
    exact bX6_comesFirst_202 C hkm hW hZ _ (lv_sub hl [] rfl) hE
  · have hE := br_n hE c_1
    refine lv_iconst (v := (1 : Int32)) C.1 C.2.1 dX6_comesFirst_197 (by decide) ?_
    refine lv_goto (tgt := 202) C.1 C.2.1 dX6_comesFirst_198 (by decide) ?_
    exact bX6_comesFirst_202 C hkm hW hZ _ (lv_sub hl [] rfl) hE
set_option maxRecDepth 20000 in
theorem bX6_comesFirst_179 {p : Program} {l : Launch} {e : Env} {s : State} {m : MethodId} {args : Array Value} {below : List Frame} {meth : Method} {c : Code} {X : Ec} {h0 : Hp} {o : Int32 × Hp} {F : Nat} (C : Cx X p s m args meth c RX6 cX6_comesFirst 7 (some .boolean) "comesFirst") {h : Hp} {x4 : Int32} {t0 : Int32} {H : Heap} {locs : List Loc} (hkm : Km h0 h) (hW : Wx X h H) (hZ : va_S (aA (eB X)) s.heap H locs) (ls : Array Slot) (hl : lv_has ls 7 [(4, .int x4)]) (hE : sX6_comesFirst_179 F h x4 t0 = some o) : W p l e (rm 2 44) s m args below meth c H locs 0 0 (MQ below (QI X h0 o.1 o.2) args s 0 0 (aA (eB X))) (F0 m 179 ls [.int t0]) := by
  refine lv_istore (lv' := [(6, .int t0), (4, .int x4)]) C.1 C.2.1 dX6_comesFirst_179 hl (by decide) rfl (fun ls hl => ?_)
  refine lv_iload C.1 C.2.1 dX6_comesFirst_181 (lv_at hl 1 rfl) ?_
  refine lv_iconst (v := (-1 : Int32)) C.1 C.2.1 dX6_comesFirst_183 (by decide) ?_
  refine lv_icmp_ne (tgt := 191) C.1 C.2.1 dX6_comesFirst_184 (by decide) (fun c_1 => ?_) (fun c_1 => ?_)
  · have hE := br_n hE c_1
    refine lv_iconst (v := (0 : Int32)) C.1 C.2.1 dX6_comesFirst_191 (by decide) ?_
    exact bX6_comesFirst_192 C hkm hW hZ _ (lv_sub hl [0] rfl) hE
  · have hE := br_p hE c_1
    refine lv_iconst (v := (1 : Int32)) C.1 C.2.1 dX6_comesFirst_187 (by decide) ?_
    refine lv_goto (tgt := 192) C.1 C.2.1 dX6_comesFirst_188 (by decide) ?_
    exact bX6_comesFirst_192 C hkm hW hZ _ (lv_sub hl [0] rfl) hE
set_option maxRecDepth 20000 in
theorem bX6_comesFirst_178 {p : Program} {l : Launch} {e : Env} {s : State} {m : MethodId} {args : Array Value} {below : List Frame} {meth : Method} {c : Code} {X : Ec} {h0 : Hp} {o : Int32 × Hp} {F : Nat} (C : Cx X p s m args meth c RX6 cX6_comesFirst 7 (some .boolean) "comesFirst") {h : Hp} {x4 : Int32} {H : Heap} {locs : List Loc} (hkm : Km h0 h) (hW : Wx X h H) (hZ : va_S (aA (eB X)) s.heap H locs) (ls : Array Slot) (hl : lv_has ls 7 [(4, .int x4)]) (hE : sX6_comesFirst_178 F h x4 = some o) : W p l e (rm 2 44) s m args below meth c H locs 0 0 (MQ below (QI X h0 o.1 o.2) args s 0 0 (aA (eB X))) (F0 m 178 ls []) := by
  refine lv_iconst (v := (0 : Int32)) C.1 C.2.1 dX6_comesFirst_178 (by decide) ?_
  exact bX6_comesFirst_179 C hkm hW hZ _ (lv_sub hl [0] rfl) hE
set_option maxRecDepth 20000 in
theorem bX6_comesFirst_150 {p : Program} {l : Launch} {e : Env} {s : State} {m : MethodId} {args : Array Value} {below : List Frame} {meth : Method} {c : Code} {X : Ec} {h0 : Hp} {o : Int32 × Hp} {F : Nat} (C : Cx X p s m args meth c RX6 cX6_comesFirst 7 (some .boolean) "comesFirst") {h : Hp} {x0 : Nat} {x1 : Int32} {x3 : Int32} {x4 : Int32} {H : Heap} {locs : List Loc} (k_x0 : hK h x0 = 6) (hkm : Km h0 h) (hW : Wx X h H) (hZ : va_S (aA (eB X)) s.heap H locs) (ls : Array Slot) (hl : lv_has ls 7 [(0, .ref x0), (1, .int x1), (3, .int x3), (4, .int x4)]) (hE : sX6_comesFirst_150 F h x0 x1 x3 x4 = some o) : W p l e (rm 2 44) s m args below meth c H locs 0 0 (MQ below (QI X h0 o.1 o.2) args s 0 0 (aA (eB X))) (F0 m 150 ls []) := by
  refine lv_aload_n C.1 C.2.1 dX6_comesFirst_150 rfl (lv_at hl 0 rfl) ?_
  obtain ⟨r_1, er_1, hE⟩ := cl_e hE
  refine gf_X6_25 C hW k_x0 er_1 dX6_comesFirst_151 (fun k_r_1 => ?_)
  obtain ⟨r_2, er_2, hE⟩ := cl_e hE
  refine gf_X6_161 C hW k_r_1 er_2 dX6_comesFirst_154 (fun k_r_2 => ?_)
  refine lv_iload_n C.1 C.2.1 dX6_comesFirst_157 rfl (lv_at hl 2 rfl) ?_
  obtain ⟨g_3, hE⟩ := gd_e hE
  refine y_iald C hW k_r_2 g_3 dX6_comesFirst_158 ?_
  refine lv_if_le (tgt := 178) C.1 C.2.1 dX6_comesFirst_159 (by decide) (fun c_4 => ?_) (fun c_4 => ?_)
  · have hE := br_p hE c_4
    exact bX6_comesFirst_178 C hkm hW hZ _ (lv_sub hl [3] rfl) hE
  · have hE := br_n hE c_4
    refine lv_aload_n C.1 C.2.1 dX6_comesFirst_162 rfl (lv_at hl 0 rfl) ?_
    refine lv_iload_n C.1 C.2.1 dX6_comesFirst_163 rfl (lv_at hl 1 rfl) ?_
    refine lv_iload_n C.1 C.2.1 dX6_comesFirst_164 rfl (lv_at hl 2 rfl) ?_
    refine lv_iconst (v := (1 : Int32)) C.1 C.2.1 dX6_comesFirst_165 (by decide) ?_
    refine lv_isub C.1 C.2.1 dX6_comesFirst_166 ?_
    obtain ⟨o_5, eo_5, hE⟩ := cl_e hE
    refine x_kI (o := o_5) (z_runV (As := [.int x1, .int (x3 - (1 : Int32))]) (rest := []) C (ct_X6_standsOn l X k_x0 eo_5) cw_X6_151 hW hZ k_x0 (by decide) rfl rfl rfl hl.1 (Nat.le_of_ble_eq_true rfl) rfl dX6_comesFirst_167 ⟨Nat.le_of_ble_eq_true rfl, Nat.le_of_ble_eq_true rfl⟩ ⟨Nat.le_refl _, Nat.le_refl _⟩) hZ (fun _ _ hW km hZ => ?_)
    replace hkm := hkm.tr km
    replace k_x0 := km.at k_x0 (by decide)
    refine lv_iconst (v := (-1 : Int32)) C.1 C.2.1 dX6_comesFirst_170 (by decide) ?_
    refine lv_icmp_ne (tgt := 178) C.1 C.2.1 dX6_comesFirst_171 (by decide) (fun c_6 => ?_) (fun c_6 => ?_)
    · have hE := br_n hE c_6
      exact bX6_comesFirst_178 C hkm hW hZ _ (lv_sub hl [3] rfl) hE
    · have hE := br_p hE c_6
      refine lv_iconst (v := (1 : Int32)) C.1 C.2.1 dX6_comesFirst_174 (by decide) ?_
      refine lv_goto (tgt := 179) C.1 C.2.1 dX6_comesFirst_175 (by decide) ?_
      exact bX6_comesFirst_179 C hkm hW hZ _ (lv_sub hl [3] rfl) hE
set_option maxRecDepth 20000 in
theorem bX6_comesFirst_149 {p : Program} {l : Launch} {e : Env} {s : State} {m : MethodId} {args : Array Value} {below : List Frame} {meth : Method} {c : Code} {X : Ec} {h0 : Hp} {o : Int32 × Hp} {F : Nat} (C : Cx X p s m args meth c RX6 cX6_comesFirst 7 (some .boolean) "comesFirst") {h : Hp} {t0 : Int32} {H : Heap} {locs : List Loc} (hkm : Km h0 h) (hW : Wx X h H) (hZ : va_S (aA (eB X)) s.heap H locs) (ls : Array Slot) (hl : lv_has ls 7 []) (hE : sX6_comesFirst_149 F h  t0 = some o) : W p l e (rm 2 44) s m args below meth c H locs 0 0 (MQ below (QI X h0 o.1 o.2) args s 0 0 (aA (eB X))) (F0 m 149 ls [.int t0]) := by
  obtain ⟨g_1, hE⟩ := gd_e hE
  exact x_iret C rfl (narB g_1) hW hZ hkm hE dX6_comesFirst_149
set_option maxRecDepth 20000 in
theorem bX6_comesFirst_82 {p : Program} {l : Launch} {e : Env} {s : State} {m : MethodId} {args : Array Value} {below : List Frame} {meth : Method} {c : Code} {X : Ec} {h0 : Hp} {o : Int32 × Hp} {k_5 : Hp → Nat → Int32 → Int32 → Int32 → Int32 → Option (Int32 × Hp)} {F : Nat} (C : Cx X p s m args meth c RX6 cX6_comesFirst 7 (some .boolean) "comesFirst") (hk_5 : ∀ (h : Hp) (x0 : Nat) (x1 : Int32) (x2 : Int32) (x3 : Int32) (x4 : Int32) (H : Heap) (locs : List Loc), hK h x0 = 6 → Km h0 h → Wx X h H → va_S (aA (eB X)) s.heap H locs → ∀ (ls : Array Slot), lv_has ls 7 [(0, .ref x0), (1, .int x1), (2, .int x2), (3, .int x3), (4, .int x4)] → k_5 h x0 x1 x2 x3 x4 = some o → W p l e (rm 2 44) s m args below meth c H locs 0 0 (MQ below (QI X h0 o.1 o.2) args s 0 0 (aA (eB X))) (F0 m 5 ls [])) {h : Hp} {x0 : Nat} {x1 : Int32} {x2 : Int32} {x3 : Int32} {x4 : Int32} {H : Heap} {locs : List Loc} (k_x0 : hK h x0 = 6) (hkm : Km h0 h) (hW : Wx X h H) (hZ : va_S (aA (eB X)) s.heap H locs) (ls : Array Slot) (hl : lv_has ls 7 [(0, .ref x0), (1, .int x1), (2, .int x2), (3, .int x3), (4, .int x4)]) (hE : sX6_comesFirst_82 F k_5 h x0 x1 x2 x3 x4 = some o) : W p l e (rm 2 44) s m args below meth c H locs 0 0 (MQ below (QI X h0 o.1 o.2) args s 0 0 (aA (eB X))) (F0 m 82 ls []) := by
  obtain ⟨v_1, ev_1, hE⟩ := nm_e2 hE
  refine lv_iinc (v := v_1) (lv' := [(4, .int v_1), (0, .ref x0), (1, .int x1), (2, .int x2), (3, .int x3)]) C.1 C.2.1 dX6_comesFirst_82 hl (k := 4) rfl (by rw [ev_1]; rfl) (by decide) rfl (fun ls hl => ?_)
  refine lv_goto (tgt := 5) C.1 C.2.1 dX6_comesFirst_85 (by decide) ?_
  exact hk_5 _ _ _ _ _ _ _ _ k_x0 hkm hW hZ _ (lv_sub hl [1, 2, 3, 4, 0] rfl) hE
set_option maxRecDepth 20000 in
theorem bX6_comesFirst_79 {p : Program} {l : Launch} {e : Env} {s : State} {m : MethodId} {args : Array Value} {below : List Frame} {meth : Method} {c : Code} {X : Ec} {h0 : Hp} {o : Int32 × Hp} {k_5 : Hp → Nat → Int32 → Int32 → Int32 → Int32 → Option (Int32 × Hp)} {F : Nat} (C : Cx X p s m args meth c RX6 cX6_comesFirst 7 (some .boolean) "comesFirst") (hk_5 : ∀ (h : Hp) (x0 : Nat) (x1 : Int32) (x2 : Int32) (x3 : Int32) (x4 : Int32) (H : Heap) (locs : List Loc), hK h x0 = 6 → Km h0 h → Wx X h H → va_S (aA (eB X)) s.heap H locs → ∀ (ls : Array Slot), lv_has ls 7 [(0, .ref x0), (1, .int x1), (2, .int x2), (3, .int x3), (4, .int x4)] → k_5 h x0 x1 x2 x3 x4 = some o → W p l e (rm 2 44) s m args below meth c H locs 0 0 (MQ below (QI X h0 o.1 o.2) args s 0 0 (aA (eB X))) (F0 m 5 ls [])) {h : Hp} {x0 : Nat} {x1 : Int32} {x2 : Int32} {x4 : Int32} {x5 : Int32} {H : Heap} {locs : List Loc} (k_x0 : hK h x0 = 6) (hkm : Km h0 h) (hW : Wx X h H) (hZ : va_S (aA (eB X)) s.heap H locs) (ls : Array Slot) (hl : lv_has ls 7 [(0, .ref x0), (1, .int x1), (2, .int x2), (4, .int x4), (5, .int x5)]) (hE : sX6_comesFirst_79 F k_5 h x0 x1 x2 x4 x5 = some o) : W p l e (rm 2 44) s m args below meth c H locs 0 0 (MQ below (QI X h0 o.1 o.2) args s 0 0 (aA (eB X))) (F0 m 79 ls []) := by
  refine lv_iload C.1 C.2.1 dX6_comesFirst_79 (lv_at hl 4 rfl) ?_
  refine lv_istore_n (lv' := [(3, .int x5), (0, .ref x0), (1, .int x1), (2, .int x2), (4, .int x4), (5, .int x5)]) C.1 C.2.1 dX6_comesFirst_81 rfl hl (by decide) rfl (fun ls hl => ?_)
  exact bX6_comesFirst_82 C hk_5 k_x0 hkm hW hZ _ (lv_sub hl [1, 2, 3, 0, 4] rfl) hE
set_option maxRecDepth 20000 in
theorem bX6_comesFirst_57 {p : Program} {l : Launch} {e : Env} {s : State} {m : MethodId} {args : Array Value} {below : List Frame} {meth : Method} {c : Code} {X : Ec} {h0 : Hp} {o : Int32 × Hp} {k_5 : Hp → Nat → Int32 → Int32 → Int32 → Int32 → Option (Int32 × Hp)} {F : Nat} (C : Cx X p s m args meth c RX6 cX6_comesFirst 7 (some .boolean) "comesFirst") (hk_5 : ∀ (h : Hp) (x0 : Nat) (x1 : Int32) (x2 : Int32) (x3 : Int32) (x4 : Int32) (H : Heap) (locs : List Loc), hK h x0 = 6 → Km h0 h → Wx X h H → va_S (aA (eB X)) s.heap H locs → ∀ (ls : Array Slot), lv_has ls 7 [(0, .ref x0), (1, .int x1), (2, .int x2), (3, .int x3), (4, .int x4)] → k_5 h x0 x1 x2 x3 x4 = some o → W p l e (rm 2 44) s m args below meth c H locs 0 0 (MQ below (QI X h0 o.1 o.2) args s 0 0 (aA (eB X))) (F0 m 5 ls [])) {h : Hp} {x0 : Nat} {x1 : Int32} {x2 : Int32} {x3 : Int32} {x4 : Int32} {x5 : Int32} {t0 : Int32} {H : Heap} {locs : List Loc} (k_x0 : hK h x0 = 6) (hkm : Km h0 h) (hW : Wx X h H) (hZ : va_S (aA (eB X)) s.heap H locs) (ls : Array Slot) (hl : lv_has ls 7 [(0, .ref x0), (1, .int x1), (2, .int x2), (3, .int x3), (4, .int x4), (5, .int x5)]) (hE : sX6_comesFirst_57 F k_5 h x0 x1 x2 x3 x4 x5 t0 = some o) : W p l e (rm 2 44) s m args below meth c H locs 0 0 (MQ below (QI X h0 o.1 o.2) args s 0 0 (aA (eB X))) (F0 m 57 ls [.int t0]) := by
  refine lv_istore (lv' := [(6, .int t0), (0, .ref x0), (1, .int x1), (2, .int x2), (3, .int x3), (4, .int x4), (5, .int x5)]) C.1 C.2.1 dX6_comesFirst_57 hl (by decide) rfl (fun ls hl => ?_)
  refine lv_iload C.1 C.2.1 dX6_comesFirst_59 (lv_at hl 0 rfl) ?_
  refine lv_if_eq (tgt := 82) C.1 C.2.1 dX6_comesFirst_61 (by decide) (fun c_1 => ?_) (fun c_1 => ?_)
  · have hE := br_p hE c_1
    exact bX6_comesFirst_82 C hk_5 k_x0 hkm hW hZ _ (lv_sub hl [1, 2, 3, 4, 5] rfl) hE
  · have hE := br_n hE c_1
    refine lv_iload_n C.1 C.2.1 dX6_comesFirst_64 rfl (lv_at hl 4 rfl) ?_
    refine lv_iconst (v := (-1 : Int32)) C.1 C.2.1 dX6_comesFirst_65 (by decide) ?_
    refine lv_icmp_eq (tgt := 79) C.1 C.2.1 dX6_comesFirst_66 (by decide) (fun c_2 => ?_) (fun c_2 => ?_)
    · have hE := br_p hE c_2
      exact bX6_comesFirst_79 C hk_5 k_x0 hkm hW hZ _ (lv_sub hl [1, 2, 3, 5, 6] rfl) hE
    · have hE := br_n hE c_2
      refine lv_aload_n C.1 C.2.1 dX6_comesFirst_69 rfl (lv_at hl 1 rfl) ?_
      refine lv_iload C.1 C.2.1 dX6_comesFirst_70 (lv_at hl 6 rfl) ?_
      refine lv_iload_n C.1 C.2.1 dX6_comesFirst_72 rfl (lv_at hl 4 rfl) ?_
      obtain ⟨o_3, eo_3, hE⟩ := cl_e hE
      refine x_kI (o := o_3) (z_runV (As := [.int x5, .int x3]) (rest := []) C (ct_X6_isWrittenFirst l X k_x0 eo_3) cw_X6_155 hW hZ k_x0 (by decide) rfl rfl rfl hl.1 (Nat.le_of_ble_eq_true rfl) rfl dX6_comesFirst_73 ⟨Nat.le_of_ble_eq_true rfl, Nat.le_of_ble_eq_true rfl⟩ ⟨Nat.le_refl _, Nat.le_refl _⟩) hZ (fun _ _ hW km hZ => ?_)
      replace hkm := hkm.tr km
      replace k_x0 := km.at k_x0 (by decide)
      refine lv_if_eq (tgt := 82) C.1 C.2.1 dX6_comesFirst_76 (by decide) (fun c_4 => ?_) (fun c_4 => ?_)
      · have hE := br_p hE c_4
        exact bX6_comesFirst_82 C hk_5 k_x0 hkm hW hZ _ (lv_sub hl [1, 2, 3, 4, 5] rfl) hE
      · have hE := br_n hE c_4
        exact bX6_comesFirst_79 C hk_5 k_x0 hkm hW hZ _ (lv_sub hl [1, 2, 3, 5, 6] rfl) hE
set_option maxRecDepth 20000 in
theorem bX6_comesFirst_22 {p : Program} {l : Launch} {e : Env} {s : State} {m : MethodId} {args : Array Value} {below : List Frame} {meth : Method} {c : Code} {X : Ec} {h0 : Hp} {o : Int32 × Hp} {k_5 : Hp → Nat → Int32 → Int32 → Int32 → Int32 → Option (Int32 × Hp)} {F : Nat} (C : Cx X p s m args meth c RX6 cX6_comesFirst 7 (some .boolean) "comesFirst") (hk_5 : ∀ (h : Hp) (x0 : Nat) (x1 : Int32) (x2 : Int32) (x3 : Int32) (x4 : Int32) (H : Heap) (locs : List Loc), hK h x0 = 6 → Km h0 h → Wx X h H → va_S (aA (eB X)) s.heap H locs → ∀ (ls : Array Slot), lv_has ls 7 [(0, .ref x0), (1, .int x1), (2, .int x2), (3, .int x3), (4, .int x4)] → k_5 h x0 x1 x2 x3 x4 = some o → W p l e (rm 2 44) s m args below meth c H locs 0 0 (MQ below (QI X h0 o.1 o.2) args s 0 0 (aA (eB X))) (F0 m 5 ls [])) {h : Hp} {x0 : Nat} {x1 : Int32} {x2 : Int32} {x3 : Int32} {x4 : Int32} {t0 : Int32} {H : Heap} {locs : List Loc} (k_x0 : hK h x0 = 6) (hkm : Km h0 h) (hW : Wx X h H) (hZ : va_S (aA (eB X)) s.heap H locs) (ls : Array Slot) (hl : lv_has ls 7 [(0, .ref x0), (1, .int x1), (2, .int x2), (3, .int x3), (4, .int x4)]) (hE : sX6_comesFirst_22 F k_5 h x0 x1 x2 x3 x4 t0 = some o) : W p l e (rm 2 44) s m args below meth c H locs 0 0 (MQ below (QI X h0 o.1 o.2) args s 0 0 (aA (eB X))) (F0 m 22 ls [.int t0]) := by
  refine lv_bipush (v := (6 : Int32)) C.1 C.2.1 dX6_comesFirst_22 (by decide) ?_
  refine lv_iload C.1 C.2.1 dX6_comesFirst_24 (lv_at hl 4 rfl) ?_
  refine lv_iconst (v := (1 : Int32)) C.1 C.2.1 dX6_comesFirst_26 (by decide) ?_
  refine lv_iand C.1 C.2.1 dX6_comesFirst_27 ?_
  refine lv_imul C.1 C.2.1 dX6_comesFirst_28 ?_
  refine lv_ishr C.1 C.2.1 dX6_comesFirst_29 ?_
  refine lv_bipush (v := (63 : Int32)) C.1 C.2.1 dX6_comesFirst_30 (by decide) ?_
  refine lv_iand C.1 C.2.1 dX6_comesFirst_32 ?_
  obtain ⟨v_1, ev_1, hE⟩ := nm_e2 hE
  refine x_nmI ev_1 ?_
  refine lv_istore (lv' := [(5, .int v_1), (0, .ref x0), (1, .int x1), (2, .int x2), (3, .int x3), (4, .int x4)]) C.1 C.2.1 dX6_comesFirst_33 hl (by decide) rfl (fun ls hl => ?_)
  refine lv_aload_n C.1 C.2.1 dX6_comesFirst_35 rfl (lv_at hl 1 rfl) ?_
  refine lv_iload_n C.1 C.2.1 dX6_comesFirst_36 rfl (lv_at hl 2 rfl) ?_
  refine lv_iload C.1 C.2.1 dX6_comesFirst_37 (lv_at hl 0 rfl) ?_
  obtain ⟨o_2, eo_2, hE⟩ := cl_e hE
  refine x_kI (o := o_2) (z_runV (As := [.int x1, .int v_1]) (rest := []) C (ct_X6_standsOn l X k_x0 eo_2) cw_X6_151 hW hZ k_x0 (by decide) rfl rfl rfl hl.1 (Nat.le_of_ble_eq_true rfl) rfl dX6_comesFirst_39 ⟨Nat.le_of_ble_eq_true rfl, Nat.le_of_ble_eq_true rfl⟩ ⟨Nat.le_refl _, Nat.le_refl _⟩) hZ (fun _ _ hW km hZ => ?_)
  replace hkm := hkm.tr km
  replace k_x0 := km.at k_x0 (by decide)
  refine lv_aload_n C.1 C.2.1 dX6_comesFirst_42 rfl (lv_at hl 1 rfl) ?_
  refine lv_iload_n C.1 C.2.1 dX6_comesFirst_43 rfl (lv_at hl 3 rfl) ?_
  refine lv_iload C.1 C.2.1 dX6_comesFirst_44 (lv_at hl 0 rfl) ?_
  obtain ⟨o_3, eo_3, hE⟩ := cl_e hE
  refine x_kI (o := o_3) (z_runV (As := [.int x2, .int v_1]) (rest := [.int o_2.1]) C (ct_X6_standsOn l X k_x0 eo_3) cw_X6_151 hW hZ k_x0 (by decide) rfl rfl rfl hl.1 (Nat.le_of_ble_eq_true rfl) rfl dX6_comesFirst_46 ⟨Nat.le_of_ble_eq_true rfl, Nat.le_of_ble_eq_true rfl⟩ ⟨Nat.le_refl _, Nat.le_refl _⟩) hZ (fun _ _ hW km hZ => ?_)
  replace hkm := hkm.tr km
  replace k_x0 := km.at k_x0 (by decide)
  refine lv_icmp_eq (tgt := 56) C.1 C.2.1 dX6_comesFirst_49 (by decide) (fun c_4 => ?_) (fun c_4 => ?_)
  · have hE := br_p hE c_4
    refine lv_iconst (v := (0 : Int32)) C.1 C.2.1 dX6_comesFirst_56 (by decide) ?_
    exact bX6_comesFirst_57 C hk_5 k_x0 hkm hW hZ _ (lv_sub hl [1, 2, 3, 4, 5, 0] rfl) hE
  · have hE := br_n hE c_4
    refine lv_iconst (v := (1 : Int32)) C.1 C.2.1 dX6_comesFirst_52 (by decide) ?_
    refine lv_goto (tgt := 57) C.1 C.2.1 dX6_comesFirst_53 (by decide) ?_
    exact bX6_comesFirst_57 C hk_5 k_x0 hkm hW hZ _ (lv_sub hl [1, 2, 3, 4, 5, 0] rfl) hE
set_option maxRecDepth 20000 in
theorem bX6_comesFirst_5 {p : Program} {l : Launch} {e : Env} {s : State} {m : MethodId} {args : Array Value} {below : List Frame} {meth : Method} {c : Code} {X : Ec} {h0 : Hp} {o : Int32 × Hp} {F : Nat} (C : Cx X p s m args meth c RX6 cX6_comesFirst 7 (some .boolean) "comesFirst") : ∀ (f : Nat) {h : Hp} {x0 : Nat} {x1 : Int32} {x2 : Int32} {x3 : Int32} {x4 : Int32} {H : Heap} {locs : List Loc} (k_x0 : hK h x0 = 6), Km h0 h → Wx X h H → va_S (aA (eB X)) s.heap H locs → ∀ (ls : Array Slot), lv_has ls 7 [(0, .ref x0), (1, .int x1), (2, .int x2), (3, .int x3), (4, .int x4)] → sX6_comesFirst_5 F f h x0 x1 x2 x3 x4 = some o → W p l e (rm 2 44) s m args below meth c H locs 0 0 (MQ below (QI X h0 o.1 o.2) args s 0 0 (aA (eB X))) (F0 m 5 ls []) := by
  intro f
  induction f with
  | zero =>
    intro h x0 x1 x2 x3 x4 H locs k_x0 hkm hW hZ ls hl hE
    rw [sX6_comesFirst_5] at hE
    cases hE
  | succ f ih =>
    intro h x0 x1 x2 x3 x4 H locs k_x0 hkm hW hZ ls hl hE
    rw [sX6_comesFirst_5] at hE
    have hk_5 : ∀ (h : Hp) (x0 : Nat) (x1 : Int32) (x2 : Int32) (x3 : Int32) (x4 : Int32) (H : Heap) (locs : List Loc), hK h x0 = 6 → Km h0 h → Wx X h H → va_S (aA (eB X)) s.heap H locs → ∀ (ls : Array Slot), lv_has ls 7 [(0, .ref x0), (1, .int x1), (2, .int x2), (3, .int x3), (4, .int x4)] → sX6_comesFirst_5 F f h x0 x1 x2 x3 x4 = some o → W p l e (rm 2 44) s m args below meth c H locs 0 0 (MQ below (QI X h0 o.1 o.2) args s 0 0 (aA (eB X))) (F0 m 5 ls []) := fun h x0 x1 x2 x3 x4 H locs k_x0 a b c ls hl hE => ih k_x0 a b c ls hl hE
    refine lv_iload C.1 C.2.1 dX6_comesFirst_5 (lv_at hl 4 rfl) ?_
    refine lv_iconst (v := (4 : Int32)) C.1 C.2.1 dX6_comesFirst_7 (by decide) ?_
    refine lv_icmp_ge (tgt := 88) C.1 C.2.1 dX6_comesFirst_8 (by decide) (fun c_1 => ?_) (fun c_1 => ?_)
    · have hE := br_p hE c_1
      refine lv_iload_n C.1 C.2.1 dX6_comesFirst_88 rfl (lv_at hl 3 rfl) ?_
      refine lv_iconst (v := (-1 : Int32)) C.1 C.2.1 dX6_comesFirst_89 (by decide) ?_
      refine lv_icmp_ne (tgt := 95) C.1 C.2.1 dX6_comesFirst_90 (by decide) (fun c_2 => ?_) (fun c_2 => ?_)
      · have hE := br_n hE c_2
        refine lv_aload_n C.1 C.2.1 dX6_comesFirst_95 rfl (lv_at hl 0 rfl) ?_
        refine lv_iload_n C.1 C.2.1 dX6_comesFirst_96 rfl (lv_at hl 1 rfl) ?_
        refine lv_iload_n C.1 C.2.1 dX6_comesFirst_97 rfl (lv_at hl 3 rfl) ?_
        obtain ⟨o_3, eo_3, hE⟩ := cl_e hE
        refine x_kI (o := o_3) (z_runV (As := [.int x1, .int x3]) (rest := []) C (ct_X6_standsOn l X k_x0 eo_3) cw_X6_151 hW hZ k_x0 (by decide) rfl rfl rfl hl.1 (Nat.le_of_ble_eq_true rfl) rfl dX6_comesFirst_98 ⟨Nat.le_of_ble_eq_true rfl, Nat.le_of_ble_eq_true rfl⟩ ⟨Nat.le_refl _, Nat.le_refl _⟩) hZ (fun _ _ hW km hZ => ?_)
        replace hkm := hkm.tr km
        replace k_x0 := km.at k_x0 (by decide)
        refine lv_istore (lv' := [(4, .int o_3.1), (0, .ref x0), (1, .int x1), (2, .int x2), (3, .int x3)]) C.1 C.2.1 dX6_comesFirst_101 hl (by decide) rfl (fun ls hl => ?_)
        refine lv_aload_n C.1 C.2.1 dX6_comesFirst_103 rfl (lv_at hl 1 rfl) ?_
        refine lv_iload_n C.1 C.2.1 dX6_comesFirst_104 rfl (lv_at hl 3 rfl) ?_
        refine lv_iload_n C.1 C.2.1 dX6_comesFirst_105 rfl (lv_at hl 4 rfl) ?_
        obtain ⟨o_4, eo_4, hE⟩ := cl_e hE
        refine x_kI (o := o_4) (z_runV (As := [.int x2, .int x3]) (rest := []) C (ct_X6_standsOn l X k_x0 eo_4) cw_X6_151 hW hZ k_x0 (by decide) rfl rfl rfl hl.1 (Nat.le_of_ble_eq_true rfl) rfl dX6_comesFirst_106 ⟨Nat.le_of_ble_eq_true rfl, Nat.le_of_ble_eq_true rfl⟩ ⟨Nat.le_refl _, Nat.le_refl _⟩) hZ (fun _ _ hW km hZ => ?_)
        replace hkm := hkm.tr km
        replace k_x0 := km.at k_x0 (by decide)
        refine lv_istore (lv' := [(5, .int o_4.1), (4, .int o_3.1), (0, .ref x0), (1, .int x1), (2, .int x2), (3, .int x3)]) C.1 C.2.1 dX6_comesFirst_109 hl (by decide) rfl (fun ls hl => ?_)
        refine lv_iload C.1 C.2.1 dX6_comesFirst_111 (lv_at hl 1 rfl) ?_
        refine lv_iconst (v := (-1 : Int32)) C.1 C.2.1 dX6_comesFirst_113 (by decide) ?_
        refine lv_icmp_eq (tgt := 150) C.1 C.2.1 dX6_comesFirst_114 (by decide) (fun c_5 => ?_) (fun c_5 => ?_)
        · have hE := br_p hE c_5
          exact bX6_comesFirst_150 C k_x0 hkm hW hZ _ (lv_sub hl [2, 3, 5, 1] rfl) hE
        · have hE := br_n hE c_5
          refine lv_iload C.1 C.2.1 dX6_comesFirst_117 (lv_at hl 0 rfl) ?_
          refine lv_iconst (v := (-1 : Int32)) C.1 C.2.1 dX6_comesFirst_119 (by decide) ?_
          refine lv_icmp_eq (tgt := 150) C.1 C.2.1 dX6_comesFirst_120 (by decide) (fun c_6 => ?_) (fun c_6 => ?_)
          · have hE := br_p hE c_6
            exact bX6_comesFirst_150 C k_x0 hkm hW hZ _ (lv_sub hl [2, 3, 5, 1] rfl) hE
          · have hE := br_n hE c_6
            refine lv_aload_n C.1 C.2.1 dX6_comesFirst_123 rfl (lv_at hl 2 rfl) ?_
            obtain ⟨r_7, er_7, hE⟩ := cl_e hE
            refine gf_X6_25 C hW k_x0 er_7 dX6_comesFirst_124 (fun k_r_7 => ?_)
            refine lv_iload C.1 C.2.1 dX6_comesFirst_127 (lv_at hl 1 rfl) ?_
            obtain ⟨o_8, eo_8, hE⟩ := cl_e hE
            refine x_kI (o := o_8) (z_runV (As := [.int o_3.1]) (rest := []) C (ct_X1_letterOf l X k_r_7 eo_8) cw_X6_158 hW hZ k_r_7 (by decide) rfl rfl rfl hl.1 (Nat.le_of_ble_eq_true rfl) rfl dX6_comesFirst_129 ⟨Nat.le_of_ble_eq_true rfl, Nat.le_of_ble_eq_true rfl⟩ ⟨Nat.le_refl _, Nat.le_refl _⟩) hZ (fun _ _ hW km hZ => ?_)
            replace hkm := hkm.tr km
            replace k_x0 := km.at k_x0 (by decide)
            refine lv_aload_n C.1 C.2.1 dX6_comesFirst_132 rfl (lv_at hl 2 rfl) ?_
            obtain ⟨r_9, er_9, hE⟩ := cl_e hE
            refine gf_X6_25 C hW k_x0 er_9 dX6_comesFirst_133 (fun k_r_9 => ?_)
            refine lv_iload C.1 C.2.1 dX6_comesFirst_136 (lv_at hl 0 rfl) ?_
            obtain ⟨o_10, eo_10, hE⟩ := cl_e hE
            refine x_kI (o := o_10) (z_runV (As := [.int o_4.1]) (rest := [.int o_8.1]) C (ct_X1_letterOf l X k_r_9 eo_10) cw_X6_158 hW hZ k_r_9 (by decide) rfl rfl rfl hl.1 (Nat.le_of_ble_eq_true rfl) rfl dX6_comesFirst_138 ⟨Nat.le_of_ble_eq_true rfl, Nat.le_of_ble_eq_true rfl⟩ ⟨Nat.le_refl _, Nat.le_refl _⟩) hZ (fun _ _ hW km hZ => ?_)
            replace hkm := hkm.tr km
            replace k_x0 := km.at k_x0 (by decide)
            refine lv_icmp_ge (tgt := 148) C.1 C.2.1 dX6_comesFirst_141 (by decide) (fun c_11 => ?_) (fun c_11 => ?_)
            · have hE := br_p hE c_11
              refine lv_iconst (v := (0 : Int32)) C.1 C.2.1 dX6_comesFirst_148 (by decide) ?_
              exact bX6_comesFirst_149 C hkm hW hZ _ (lv_sub hl [] rfl) hE
            · have hE := br_n hE c_11
              refine lv_iconst (v := (1 : Int32)) C.1 C.2.1 dX6_comesFirst_144 (by decide) ?_
              refine lv_goto (tgt := 149) C.1 C.2.1 dX6_comesFirst_145 (by decide) ?_
              exact bX6_comesFirst_149 C hkm hW hZ _ (lv_sub hl [] rfl) hE
      · have hE := br_p hE c_2
        refine lv_iconst (v := (0 : Int32)) C.1 C.2.1 dX6_comesFirst_93 (by decide) ?_
        exact x_iret C rfl (by decide) hW hZ hkm hE dX6_comesFirst_94
    · have hE := br_n hE c_1
      refine lv_iload C.1 C.2.1 dX6_comesFirst_11 (lv_at hl 4 rfl) ?_
      refine lv_iconst (v := (2 : Int32)) C.1 C.2.1 dX6_comesFirst_13 (by decide) ?_
      refine lv_icmp_ge (tgt := 21) C.1 C.2.1 dX6_comesFirst_14 (by decide) (fun c_12 => ?_) (fun c_12 => ?_)
      · have hE := br_p hE c_12
        refine lv_iload_n C.1 C.2.1 dX6_comesFirst_21 rfl (lv_at hl 2 rfl) ?_
        exact bX6_comesFirst_22 C hk_5 k_x0 hkm hW hZ _ (lv_sub hl [0, 1, 2, 3, 4] rfl) hE
      · have hE := br_n hE c_12
        refine lv_iload_n C.1 C.2.1 dX6_comesFirst_17 rfl (lv_at hl 1 rfl) ?_
        refine lv_goto (tgt := 22) C.1 C.2.1 dX6_comesFirst_18 (by decide) ?_
        exact bX6_comesFirst_22 C hk_5 k_x0 hkm hW hZ _ (lv_sub hl [0, 1, 2, 3, 4] rfl) hE
set_option maxRecDepth 20000 in
theorem ct_X6_comesFirst (l : Launch) (X : Ec) (F : Nat) {h : Hp} {x0 : Nat} {x1 : Int32} {x2 : Int32} {o : Int32 × Hp} (k_x0 : hK h x0 = 6) (hE : sX6_comesFirst F h x0 x1 x2 = some o) : MetI l yX6_comesFirst cX6_comesFirst 7 (some .boolean) 2 44 X [.ref x0, .int x1, .int x2] h o := by
  refine x_met (by decide) (Nat.le_of_ble_eq_true rfl) ?_
  intro p e s m below meth c ls C hl hW hZ
  have hl : lv_has ls 7 [(0, .ref x0), (1, .int x1), (2, .int x2)] := hl
  have hkm : Km h h := Km.rf h
  refine lv_iconst (v := (-1 : Int32)) C.1 C.2.1 dX6_comesFirst_0 (by decide) ?_
  refine lv_istore_n (lv' := [(3, .int (-1 : Int32)), (0, .ref x0), (1, .int x1), (2, .int x2)]) C.1 C.2.1 dX6_comesFirst_1 rfl hl (by decide) rfl (fun ls hl => ?_)
  refine lv_iconst (v := (0 : Int32)) C.1 C.2.1 dX6_comesFirst_2 (by decide) ?_
  refine lv_istore (lv' := [(4, .int (0 : Int32)), (3, .int (-1 : Int32)), (0, .ref x0), (1, .int x1), (2, .int x2)]) C.1 C.2.1 dX6_comesFirst_3 hl (by decide) rfl (fun ls hl => ?_)
  exact bX6_comesFirst_5 C F k_x0 hkm hW hZ _ (lv_sub hl [2, 3, 4, 1, 0] rfl) hE
