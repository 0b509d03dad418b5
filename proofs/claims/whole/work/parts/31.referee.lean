theorem m_263 : Cond.methodLink RX5 3 objectInit ∈ W0 := w0_in (List.mem_append_right _ (List.mem_of_getElem? (i := 263) (by decide +kernel))) rfl
theorem m_264 : Cond.classLink RX5 15 RX3 ∈ W0 := w0_in (List.mem_append_right _ (List.mem_of_getElem? (i := 264) (by decide +kernel))) rfl
theorem m_265 : Cond.instantiable RX3 11 ∈ W0 := w0_in (List.mem_append_right _ (List.mem_of_getElem? (i := 265) (by decide +kernel))) rfl
theorem m_266 : Cond.methodLink RX5 17 yX3_init ∈ W0 := w0_in (List.mem_append_right _ (List.mem_of_getElem? (i := 266) (by decide +kernel))) rfl
theorem m_267 : Cond.instanceMethod yX3_init ∈ W0 := w0_in (List.mem_append_right _ (List.mem_of_getElem? (i := 267) (by decide +kernel))) rfl
theorem m_268 : Cond.code yX3_init cX3_init 1 none ∈ W0 := w0_in (List.mem_append_right _ (List.mem_of_getElem? (i := 268) (by decide +kernel))) rfl
theorem m_343 : Cond.fieldLink RX5 22 (TX5 0).1 (TX5 0).2.1 (TX5 0).2.2.1 ∈ W0 := w0_in (List.mem_append_right _ (List.mem_of_getElem? (i := 343) (by decide +kernel))) rfl
theorem m_344 : Cond.fieldLink RX5 26 (TX5 1).1 (TX5 1).2.1 (TX5 1).2.2.1 ∈ W0 := w0_in (List.mem_append_right _ (List.mem_of_getElem? (i := 344) (by decide +kernel))) rfl
theorem m_345 : Cond.fieldLink RX5 9 (TX5 2).1 (TX5 2).2.1 (TX5 2).2.2.1 ∈ W0 := w0_in (List.mem_append_right _ (List.mem_of_getElem? (i := 345) (by decide +kernel))) rfl
theorem m_347 : Cond.fieldLink RX5 18 (TX5 3).1 (TX5 3).2.1 (TX5 3).2.2.1 ∈ W0 := w0_in (List.mem_append_right _ (List.mem_of_getElem? (i := 347) (by decide +kernel))) rfl
theorem i_X5 : ∀ w ∈ u_ws RX5 TX5 10, w ∈ W0 := by
  intro w hw
  exact w0_in (List.mem_append_right _ ((by decide +kernel : ∀ w ∈ u_ws RX5 TX5 10, w ∈ tables_1) w hw)) ((by decide +kernel : ∀ w ∈ u_ws RX5 TX5 10, goodWord w = true) w hw)
theorem dv_X3 : ∀ j, j < 11 → defaultValue (tyX3 j) = dV ((tl 3).getD j 2) := by decide +kernel
section
variable {p : Program} {l : Launch} {e : Env} {R : Room} {s : State} {m : MethodId} {args : Array Value} {below : List Frame} {meth : Method} {c : Code} {H : Heap} {locs : List Loc} {cells slots : Nat} {Q : State → Prop}
variable {cc : ByteArray} {pc : Nat} {ls : Array Slot} {rest : List Value} {X : Ec} {h h1 : Hp} {nL : Nat} {rt : Option FieldType} {mn : String}
theorem pf_X5_18 {a r : Nat} (C : Cx X p s m args meth c RX5 cc nL rt mn) (hW : Wx X h H) (hZ : va_S (aA (eB X)) s.heap H locs) (hmn : mn = "<init>") (ha : hK h a = 5) (hr : hK h r = 3) (eh : h1 = wR h a 3 (some r)) (hdg : decode cc pc = .ok (.putfield 18, 3)) (kk : ∀ (H1 : Heap) (locs1 : List Loc), Wx X h1 H1 → Km h h1 → va_S (aA (eB X)) s.heap H1 locs1 → W p l e R s m args below meth c H1 locs1 cells slots Q (F0 m (pc + 3) ls rest)) : W p l e R s m args below meth c H locs cells slots Q (F0 m pc ls (.ref r :: .ref a :: rest)) :=
  y_putrF (ty := .object "GameRules$Position") C hW hZ ha i_X5 tyX5 tyX5_ok nmX5 (by decide) rfl rfl (by decide) m_347 rfl hmn rfl (by decide +kernel) rfl rfl rfl hr rfl (by decide) eh hdg kk
theorem pf_X5_22 {a r : Nat} (C : Cx X p s m args meth c RX5 cc nL rt mn) (hW : Wx X h H) (hZ : va_S (aA (eB X)) s.heap H locs) (hmn : mn = "<init>") (ha : hK h a = 5) (hr : hK h r = 1) (eh : h1 = wR h a 0 (some r)) (hdg : decode cc pc = .ok (.putfield 22, 3)) (kk : ∀ (H1 : Heap) (locs1 : List Loc), Wx X h1 H1 → Km h h1 → va_S (aA (eB X)) s.heap H1 locs1 → W p l e R s m args below meth c H1 locs1 cells slots Q (F0 m (pc + 3) ls rest)) : W p l e R s m args below meth c H locs cells slots Q (F0 m pc ls (.ref r :: .ref a :: rest)) :=
  y_putrF (ty := .object "GameRules$Law") C hW hZ ha i_X5 tyX5 tyX5_ok nmX5 (by decide) rfl rfl (by decide) m_343 rfl hmn rfl (by decide +kernel) rfl rfl rfl hr rfl (by decide) eh hdg kk
theorem pf_X5_26 {a r : Nat} (C : Cx X p s m args meth c RX5 cc nL rt mn) (hW : Wx X h H) (hZ : va_S (aA (eB X)) s.heap H locs) (hmn : mn = "<init>") (ha : hK h a = 5) (hr : hK h r = 10) (eh : h1 = wR h a 1 (some r)) (hdg : decode cc pc = .ok (.putfield 26, 3)) (kk : ∀ (H1 : Heap) (locs1 : List Loc), Wx X h1 H1 → Km h h1 → va_S (aA (eB X)) s.heap H1 locs1 → W p l e R s m args below meth c H1 locs1 cells slots Q (F0 m (pc + 3) ls rest)) : W p l e R s m args below meth c H locs cells slots Q (F0 m pc ls (.ref r :: .ref a :: rest)) :=
  y_putrF (ty := .object "GameRules$Ways") C hW hZ ha i_X5 tyX5 tyX5_ok nmX5 (by decide) rfl rfl (by decide) m_344 rfl hmn rfl (by decide +kernel) rfl rfl rfl hr rfl (by decide) eh hdg kk
theorem pf_X5_9 {a r : Nat} (C : Cx X p s m args meth c RX5 cc nL rt mn) (hW : Wx X h H) (hZ : va_S (aA (eB X)) s.heap H locs) (hmn : mn = "<init>") (ha : hK h a = 5) (hr : hK h r = 17) (eh : h1 = wR h a 2 (some r)) (hdg : decode cc pc = .ok (.putfield 9, 3)) (kk : ∀ (H1 : Heap) (locs1 : List Loc), Wx X h1 H1 → Km h h1 → va_S (aA (eB X)) s.heap H1 locs1 → W p l e R s m args below meth c H1 locs1 cells slots Q (F0 m (pc + 3) ls rest)) : W p l e R s m args below meth c H locs cells slots Q (F0 m pc ls (.ref r :: .ref a :: rest)) :=
  y_putrF (ty := .array .int) C hW hZ ha i_X5 tyX5 tyX5_ok nmX5 (by decide) rfl rfl (by decide) m_345 rfl hmn rfl (by decide +kernel) rfl rfl rfl hr rfl (by decide) eh hdg kk
end
theorem ci_X5_17 : cwi RX5 17 yX3_init cX3_init 1 0 := ⟨m_268, m_266, m_8, m_267, rfl, by decide, by decide, by decide +kernel⟩
theorem dX5_init_0 : decode cX5_init 0 = .ok (.aload_n 0, 1) := by decide +kernel
theorem dX5_init_1 : decode cX5_init 1 = .ok (.invokespecial 3, 3) := by decide +kernel
theorem dX5_init_4 : decode cX5_init 4 = .ok (.aload_n 0, 1) := by decide +kernel
theorem dX5_init_5 : decode cX5_init 5 = .ok (.sipush 4096, 3) := by decide +kernel
theorem dX5_init_8 : decode cX5_init 8 = .ok (.newarray .int, 2) := by decide +kernel
theorem dX5_init_10 : decode cX5_init 10 = .ok (.putfield 9, 3) := by decide +kernel
theorem dX5_init_13 : decode cX5_init 13 = .ok (.aload_n 0, 1) := by decide +kernel
theorem dX5_init_14 : decode cX5_init 14 = .ok (.new 15, 3) := by decide +kernel
theorem dX5_init_17 : decode cX5_init 17 = .ok (.dup, 1) := by decide +kernel
theorem dX5_init_18 : decode cX5_init 18 = .ok (.invokespecial 17, 3) := by decide +kernel
theorem dX5_init_21 : decode cX5_init 21 = .ok (.putfield 18, 3) := by decide +kernel
theorem dX5_init_24 : decode cX5_init 24 = .ok (.aload_n 0, 1) := by decide +kernel
theorem dX5_init_25 : decode cX5_init 25 = .ok (.aload_n 1, 1) := by decide +kernel
theorem dX5_init_26 : decode cX5_init 26 = .ok (.putfield 22, 3) := by decide +kernel
theorem dX5_init_29 : decode cX5_init 29 = .ok (.aload_n 0, 1) := by decide +kernel
theorem dX5_init_30 : decode cX5_init 30 = .ok (.aload_n 2, 1) := by decide +kernel
theorem dX5_init_31 : decode cX5_init 31 = .ok (.putfield 26, 3) := by decide +kernel
theorem dX5_init_34 : decode cX5_init 34 = .ok (.return_, 1) := by decide +kernel
def sX5_init_21 (F : Nat) (h : Hp) (x0 : Nat) (x1 : Nat) (x2 : Nat) (t0 : Nat) (t1 : Nat) : Option (Hp) := nm (wR h t1 3 (some t0)) fun h_1 => nm (wR h_1 x0 0 (some x1)) fun h_2 => nm (wR h_2 x0 1 (some x2)) fun h_3 => some h_3
def sX5_init_17 (F : Nat) (h : Hp) (x0 : Nat) (x1 : Nat) (x2 : Nat) (t0 : Nat) (t1 : Nat) : Option (Hp) := cl (sX3_init F h t0) fun o_1 => sX5_init_21 F o_1 x0 x1 x2 t0 t1
def sX5_init_10 (F : Nat) (h : Hp) (x0 : Nat) (x1 : Nat) (x2 : Nat) (t0 : Nat) (t1 : Nat) : Option (Hp) := nm (wR h t1 2 (some t0)) fun h_1 => nm (hS h_1) fun a_2 => nm (nC h_1 3 0 11) fun h_3 => sX5_init_17 F h_3 x0 x1 x2 a_2 x0
def sX5_init (F : Nat) (h : Hp) (x0 : Nat) (x1 : Nat) (x2 : Nat) : Option (Hp) := nm (hS h) fun a_1 => nm (nC h 17 (4096 : Int32).toNatClampNeg (4096 : Int32).toNatClampNeg) fun h_2 => sX5_init_10 F h_2 x0 x1 x2 a_1 x0
set_option maxRecDepth 20000 in
theorem moX5_init_21 {o : Hp} {F : Nat} {h : Hp} {x0 : Nat} {x1 : Nat} {x2 : Nat} {t0 : Nat} {t1 : Nat} (hE : sX5_init_21 F h x0 x1 x2 t0 t1 = some o) : Le h o := by
  obtain ⟨h_1, eh_1, hE⟩ := nm_e2 hE
  refine (le_R eh_1).tr ?_
  obtain ⟨h_2, eh_2, hE⟩ := nm_e2 hE
  refine (le_R eh_2).tr ?_
  obtain ⟨h_3, eh_3, hE⟩ := nm_e2 hE
  refine (le_R eh_3).tr ?_
  cases hE
  exact Le.rf _
set_option maxRecDepth 20000 in
theorem moX5_init_17 {o : Hp} {F : Nat} {h : Hp} {x0 : Nat} {x1 : Nat} {x2 : Nat} {t0 : Nat} {t1 : Nat} (hE : sX5_init_17 F h x0 x1 x2 t0 t1 = some o) : Le h o := by
  obtain ⟨o_1, eo_1, hE⟩ := cl_e hE
  refine (moX3_init eo_1).tr ?_
  exact moX5_init_21 hE
set_option maxRecDepth 20000 in
theorem moX5_init_10 {o : Hp} {F : Nat} {h : Hp} {x0 : Nat} {x1 : Nat} {x2 : Nat} {t0 : Nat} {t1 : Nat} (hE : sX5_init_10 F h x0 x1 x2 t0 t1 = some o) : Le h o := by
  obtain ⟨h_1, eh_1, hE⟩ := nm_e2 hE
  refine (le_R eh_1).tr ?_
  obtain ⟨a_2, ea_2, hE⟩ := nm_e2 hE
  obtain ⟨h_3, eh_3, hE⟩ := nm_e2 hE
  refine (le_C eh_3).tr ?_
  exact moX5_init_17 hE
set_option maxRecDepth 20000 in
theorem moX5_init {o : Hp} {F : Nat} {h : Hp} {x0 : Nat} {x1 : Nat} {x2 : Nat} (hE : sX5_init F h x0 x1 x2 = some o) : Le h o := by
  obtain ⟨a_1, ea_1, hE⟩ := nm_e2 hE
  obtain ⟨h_2, eh_2, hE⟩ := nm_e2 hE
  refine (le_C eh_2).tr ?_
  exact moX5_init_10 hE
set_option maxRecDepth 20000 in
theorem bX5_init_21 {p : Program} {l : Launch} {e : Env} {s : State} {m : MethodId} {args : Array Value} {below : List Frame} {meth : Method} {c : Code} {X : Ec} {h0 : Hp} {o : Hp} {F : Nat} (C : Cx X p s m args meth c RX5 cX5_init 3 none "<init>") {h : Hp} {x0 : Nat} {x1 : Nat} {x2 : Nat} {t0 : Nat} {t1 : Nat} {H : Heap} {locs : List Loc} (k_x0 : hK h x0 = 5) (k_x1 : hK h x1 = 1) (k_x2 : hK h x2 = 10) (k_t0 : hK h t0 = 3) (k_t1 : hK h t1 = 5) (hkl : Kl h0 h) (hW : Wx X h H) (hZ : va_S (aA (eB X)) s.heap H locs) (ls : Array Slot) (hl : lv_has ls 3 [(0, .ref x0), (1, .ref x1), (2, .ref x2)]) (hE : sX5_init_21 F h x0 x1 x2 t0 t1 = some o) : W p l e (rmA 2 43 h0 o) s m args below meth c H locs (hS h - hS h0) (hL h - hL h0) (MQ below (QVA X h0 o) args s (hS o - hS h0) (hL o - hL h0) (aA (eB X))) (F0 m 21 ls [.ref t0, .ref t1]) := by
  obtain ⟨h_1, eh_1, hE⟩ := nm_e2 hE
  refine pf_X5_18 C hW hZ rfl k_t1 k_t0 eh_1 dX5_init_21 (fun _ _ hW km hZ => ?_)
  replace hkl := hkl.tr km.l
  refine x_wc km ?_
  replace k_x0 := km.at k_x0 (by decide)
  replace k_x1 := km.at k_x1 (by decide)
  replace k_x2 := km.at k_x2 (by decide)
  refine lv_aload_n C.1 C.2.1 dX5_init_24 rfl (lv_at hl 0 rfl) ?_
  refine lv_aload_n C.1 C.2.1 dX5_init_25 rfl (lv_at hl 1 rfl) ?_
  obtain ⟨h_2, eh_2, hE⟩ := nm_e2 hE
  refine pf_X5_22 C hW hZ rfl k_x0 k_x1 eh_2 dX5_init_26 (fun _ _ hW km hZ => ?_)
  replace hkl := hkl.tr km.l
  refine x_wc km ?_
  replace k_x0 := km.at k_x0 (by decide)
  replace k_x1 := km.at k_x1 (by decide)
  replace k_x2 := km.at k_x2 (by decide)
  refine lv_aload_n C.1 C.2.1 dX5_init_29 rfl (lv_at hl 0 rfl) ?_
  refine lv_aload_n C.1 C.2.1 dX5_init_30 rfl (lv_at hl 2 rfl) ?_
  obtain ⟨h_3, eh_3, hE⟩ := nm_e2 hE
  refine pf_X5_26 C hW hZ rfl k_x0 k_x2 eh_3 dX5_init_31 (fun _ _ hW km hZ => ?_)
  replace hkl := hkl.tr km.l
  refine x_wc km ?_
  replace k_x0 := km.at k_x0 (by decide)
  replace k_x1 := km.at k_x1 (by decide)
  replace k_x2 := km.at k_x2 (by decide)
  exact x_vretA C rfl hW hZ hkl hE dX5_init_34
set_option maxRecDepth 20000 in
theorem bX5_init_17 {p : Program} {l : Launch} {e : Env} {s : State} {m : MethodId} {args : Array Value} {below : List Frame} {meth : Method} {c : Code} {X : Ec} {h0 : Hp} {o : Hp} {F : Nat} (C : Cx X p s m args meth c RX5 cX5_init 3 none "<init>") {h : Hp} {x0 : Nat} {x1 : Nat} {x2 : Nat} {t0 : Nat} {t1 : Nat} {H : Heap} {locs : List Loc} (k_x0 : hK h x0 = 5) (k_x1 : hK h x1 = 1) (k_x2 : hK h x2 = 10) (k_t0 : hK h t0 = 3) (k_t1 : hK h t1 = 5) (hkl : Kl h0 h) (hW : Wx X h H) (hZ : va_S (aA (eB X)) s.heap H locs) (ls : Array Slot) (hl : lv_has ls 3 [(0, .ref x0), (1, .ref x1), (2, .ref x2)]) (hE : sX5_init_17 F h x0 x1 x2 t0 t1 = some o) : W p l e (rmA 2 43 h0 o) s m args below meth c H locs (hS h - hS h0) (hL h - hL h0) (MQ below (QVA X h0 o) args s (hS o - hS h0) (hL o - hL h0) (aA (eB X))) (F0 m 17 ls [.ref t0, .ref t1]) := by
  refine lv_dup C.1 C.2.1 dX5_init_17 rfl ?_
  obtain ⟨o_1, eo_1, hE⟩ := cl_e hE
  have m1 := moX3_init eo_1
  have m2 := moX5_init_21 hE
  refine x_kVA (o := o_1) hkl (z_runI (As := []) (rest := [.ref t0, .ref t1]) C (ct_X3_init l X F k_t0 eo_1) ci_X5_17 hW hZ rfl hl.1 (Nat.le_of_ble_eq_true rfl) rfl dX5_init_18 ⟨Nat.le_of_ble_eq_true rfl, Nat.le_of_ble_eq_true rfl⟩ (rm_ok hkl m1 m2)) hZ (fun _ _ hW km hZ => ?_)
  replace hkl := hkl.tr km
  replace k_x0 := km.at k_x0 (by decide)
  replace k_x1 := km.at k_x1 (by decide)
  replace k_x2 := km.at k_x2 (by decide)
  replace k_t0 := km.at k_t0 (by decide)
  replace k_t1 := km.at k_t1 (by decide)
  exact bX5_init_21 C k_x0 k_x1 k_x2 k_t0 k_t1 hkl hW hZ _ (lv_sub hl [0, 1, 2] rfl) hE
set_option maxRecDepth 20000 in
theorem bX5_init_10 {p : Program} {l : Launch} {e : Env} {s : State} {m : MethodId} {args : Array Value} {below : List Frame} {meth : Method} {c : Code} {X : Ec} {h0 : Hp} {o : Hp} {F : Nat} (C : Cx X p s m args meth c RX5 cX5_init 3 none "<init>") {h : Hp} {x0 : Nat} {x1 : Nat} {x2 : Nat} {t0 : Nat} {t1 : Nat} {H : Heap} {locs : List Loc} (k_x0 : hK h x0 = 5) (k_x1 : hK h x1 = 1) (k_x2 : hK h x2 = 10) (k_t0 : hK h t0 = 17) (k_t1 : hK h t1 = 5) (hkl : Kl h0 h) (hW : Wx X h H) (hZ : va_S (aA (eB X)) s.heap H locs) (ls : Array Slot) (hl : lv_has ls 3 [(0, .ref x0), (1, .ref x1), (2, .ref x2)]) (hE : sX5_init_10 F h x0 x1 x2 t0 t1 = some o) : W p l e (rmA 2 43 h0 o) s m args below meth c H locs (hS h - hS h0) (hL h - hL h0) (MQ below (QVA X h0 o) args s (hS o - hS h0) (hL o - hL h0) (aA (eB X))) (F0 m 10 ls [.ref t0, .ref t1]) := by
  obtain ⟨h_1, eh_1, hE⟩ := nm_e2 hE
  refine pf_X5_9 C hW hZ rfl k_t1 k_t0 eh_1 dX5_init_10 (fun _ _ hW km hZ => ?_)
  replace hkl := hkl.tr km.l
  refine x_wc km ?_
  replace k_x0 := km.at k_x0 (by decide)
  replace k_x1 := km.at k_x1 (by decide)
  replace k_x2 := km.at k_x2 (by decide)
  refine lv_aload_n C.1 C.2.1 dX5_init_13 rfl (lv_at hl 0 rfl) ?_
  obtain ⟨a_2, ea_2, hE⟩ := nm_e2 hE
  obtain ⟨h_3, eh_3, hE⟩ := nm_e2 hE
  refine y_new C hW hZ hkl (moX5_init_17 hE) ⟨rfl, rfl⟩ i_X3 tyX3 tyX3_ok (by decide) rfl rfl dv_X3 m_264 m_265 m_8 eh_3 dX5_init_14 (fun _ hW km k_a_2 hZ => ?_)
  replace hkl := hkl.tr km
  refine x_nmA ea_2 ?_
  rw [← ea_2] at k_a_2
  replace k_x0 := km.at k_x0 (by decide)
  replace k_x1 := km.at k_x1 (by decide)
  replace k_x2 := km.at k_x2 (by decide)
  exact bX5_init_17 C k_x0 k_x1 k_x2 k_a_2 k_x0 hkl hW hZ _ (lv_sub hl [0, 1, 2] rfl) hE
set_option maxRecDepth 20000 in
theorem ct_X5_init (l : Launch) (X : Ec) (F : Nat) {h : Hp} {x0 : Nat} {x1 : Nat} {x2 : Nat} {o : Hp} (k_x0 : hK h x0 = 5) (k_x1 : hK h x1 = 1) (k_x2 : hK h x2 = 10) (hE : sX5_init F h x0 x1 x2 = some o) : MetVA l yX5_init cX5_init 3 none 2 43 X [.ref x0, .ref x1, .ref x2] h o := by
  refine x_metA (oh := o) (by decide) (Nat.le_of_ble_eq_true rfl) ?_
  intro p e s m below meth c ls C hl hW hZ
  have hl : lv_has ls 3 [(0, .ref x0), (1, .ref x1), (2, .ref x2)] := hl
  have hkl : Kl h h := Kl.rf h
  refine lv_aload_n C.1 C.2.1 dX5_init_0 rfl (lv_at hl 0 rfl) ?_
  refine W.objInit C.1 C.2.1 C.2.2.2.1 (C.2.2.2.2.1 _ m_263) (C.2.2.2.2.1 _ m_32) (C.2.2.2.2.1 _ m_33) rfl (by rw [C.2.2.1]; exact hl.1) rfl dX5_init_1 (Nat.le_of_ble_eq_true rfl) (Nat.le_of_ble_eq_true rfl) ?_
  refine W.eq (g2 := F0 m 4 ls []) rfl ?_
  refine lv_aload_n C.1 C.2.1 dX5_init_4 rfl (lv_at hl 0 rfl) ?_
  refine lv_sipush (v := (4096 : Int32)) C.1 C.2.1 dX5_init_5 (by decide) ?_
  obtain ⟨a_1, ea_1, hE⟩ := nm_e2 hE
  obtain ⟨h_2, eh_2, hE⟩ := nm_e2 hE
  refine y_newa (k := 17) (ty := .int) (t0 := 1) C hW hZ hkl (moX5_init_10 hE) ⟨rfl, rfl⟩ (by decide) (by decide) rfl rfl (by intro C hC; cases hC) hdef_17 m_54 (by decide) (by decide) eh_2 dX5_init_8 (fun _ hW km k_a_1 hZ => ?_)
  replace hkl := hkl.tr km
  refine x_nmA ea_1 ?_
  rw [← ea_1] at k_a_1
  replace k_x0 := km.at k_x0 (by decide)
  replace k_x1 := km.at k_x1 (by decide)
  replace k_x2 := km.at k_x2 (by decide)
  exact bX5_init_10 C k_x0 k_x1 k_x2 k_a_1 k_x0 hkl hW hZ _ (lv_sub hl [0, 1, 2] rfl) hE
theorem m_1 : Cond.initialized RX11 ∈ W0 := w0_in (List.mem_append_right _ (List.mem_of_getElem? (i := 1) (by decide +kernel))) rfl
theorem m_92 : Cond.fieldLink RX5 129 (TX1 4).1 (TX1 4).2.1 (TX1 4).2.2.1 ∈ W0 := w0_in (List.mem_append_right _ (List.mem_of_getElem? (i := 92) (by decide +kernel))) rfl
theorem m_279 : Cond.fieldLink RX5 42 (TX3 0).1 (TX3 0).2.1 (TX3 0).2.2.1 ∈ W0 := w0_in (List.mem_append_right _ (List.mem_of_getElem? (i := 279) (by decide +kernel))) rfl
theorem m_284 : Cond.fieldLink RX5 33 (TX3 1).1 (TX3 1).2.1 (TX3 1).2.2.1 ∈ W0 := w0_in (List.mem_append_right _ (List.mem_of_getElem? (i := 284) (by decide +kernel))) rfl
theorem n_1043 : Cond.methodLinkNest RX5 85 yX11_lowest "GameRules" ∈ tables_1 := List.mem_of_getElem? (i := 1043) (by decide +kernel)
theorem m_1044 : Cond.static yX11_lowest ∈ W0 := w0_in (List.mem_append_right _ (List.mem_of_getElem? (i := 1044) (by decide +kernel))) rfl
theorem m_1045 : Cond.code yX11_lowest cX11_lowest 2 (some .int) ∈ W0 := w0_in (List.mem_append_right _ (List.mem_of_getElem? (i := 1045) (by decide +kernel))) rfl
theorem m_1049 : Cond.methodLink RX5 104 yX1_has ∈ W0 := w0_in (List.mem_append_right _ (List.mem_of_getElem? (i := 1049) (by decide +kernel))) rfl
theorem m_1053 : Cond.methodLink RX5 209 yX3_inHand ∈ W0 := w0_in (List.mem_append_right _ (List.mem_of_getElem? (i := 1053) (by decide +kernel))) rfl
section
variable {p : Program} {l : Launch} {e : Env} {R : Room} {s : State} {m : MethodId} {args : Array Value} {below : List Frame} {meth : Method} {c : Code} {H : Heap} {locs : List Loc} {cells slots : Nat} {Q : State → Prop}
variable {cc : ByteArray} {pc : Nat} {ls : Array Slot} {rest : List Value} {X : Ec} {h h1 : Hp} {nL : Nat} {rt : Option FieldType} {mn : String}
theorem gf_X5_22 {a r : Nat} (C : Cx X p s m args meth c RX5 cc nL rt mn) (hW : Wx X h H) (ha : hK h a = 5) (hr : hR h a 0 = some r) (hdg : decode cc pc = .ok (.getfield 22, 3)) (kk : hK h r = 1 → W p l e R s m args below meth c H locs cells slots Q (F0 m (pc + 3) ls (.ref r :: rest))) : W p l e R s m args below meth c H locs cells slots Q (F0 m pc ls (.ref a :: rest)) :=
  y_getr C hW ha i_X5 (by decide) rfl (by decide) m_343 rfl rfl hr hdg kk
theorem gf_X5_129 {a : Nat} (C : Cx X p s m args meth c RX5 cc nL rt mn) (hW : Wx X h H) (ha : hK h a = 1) (hdg : decode cc pc = .ok (.getfield 129, 3)) (kk : W p l e R s m args below meth c H locs cells slots Q (F0 m (pc + 3) ls (.int (hI h a 4) :: rest))) : W p l e R s m args below meth c H locs cells slots Q (F0 m pc ls (.ref a :: rest)) :=
  y_geti C hW ha i_X1 (by decide) rfl (by decide) m_92 rfl hdg kk
theorem gf_X5_42 {a r : Nat} (C : Cx X p s m args meth c RX5 cc nL rt mn) (hW : Wx X h H) (ha : hK h a = 3) (hr : hR h a 0 = some r) (hdg : decode cc pc = .ok (.getfield 42, 3)) (kk : hK h r = 16 → W p l e R s m args below meth c H locs cells slots Q (F0 m (pc + 3) ls (.ref r :: rest))) : W p l e R s m args below meth c H locs cells slots Q (F0 m pc ls (.ref a :: rest)) :=
  y_getr C hW ha i_X3 (by decide) rfl (by decide) m_279 rfl rfl hr hdg kk
theorem gf_X5_33 {a r : Nat} (C : Cx X p s m args meth c RX5 cc nL rt mn) (hW : Wx X h H) (ha : hK h a = 3) (hr : hR h a 1 = some r) (hdg : decode cc pc = .ok (.getfield 33, 3)) (kk : hK h r = 18 → W p l e R s m args below meth c H locs cells slots Q (F0 m (pc + 3) ls (.ref r :: rest))) : W p l e R s m args below meth c H locs cells slots Q (F0 m pc ls (.ref a :: rest)) :=
  y_getr C hW ha i_X3 (by decide) rfl (by decide) m_284 rfl rfl hr hdg kk
end
theorem cw_X5_209 : cwd RX5 209 yX3_inHand cX3_inHand 3 (some .int) false 2 := ⟨m_1021, m_1053, m_8, ⟨m_1019, m_1020⟩, by decide, by decide, by decide +kernel⟩
theorem cw_X5_104 : cwd RX5 104 yX1_has cX1_has 2 (some .boolean) false 1 := ⟨m_1052, m_1049, m_4, ⟨m_1050, m_1051⟩, by decide, by decide, by decide +kernel⟩
theorem cn_X5_85 : cwn RX5 85 "GameRules" yX11_lowest cX11_lowest 2 (some .int) true 1 := ⟨m_1045, n_1043, m_1, m_1044, by decide, by decide, by decide +kernel⟩
theorem dX5_hasRightMen_0 : decode cX5_hasRightMen 0 = .ok (.aload_n 0, 1) := by decide +kernel
theorem dX5_hasRightMen_1 : decode cX5_hasRightMen 1 = .ok (.getfield 22, 3) := by decide +kernel
theorem dX5_hasRightMen_4 : decode cX5_hasRightMen 4 = .ok (.getfield 129, 3) := by decide +kernel
theorem dX5_hasRightMen_7 : decode cX5_hasRightMen 7 = .ok (.iconst (-1), 1) := by decide +kernel
theorem dX5_hasRightMen_8 : decode cX5_hasRightMen 8 = .ok (.if_icmp .ne 5, 3) := by decide +kernel
theorem dX5_hasRightMen_11 : decode cX5_hasRightMen 11 = .ok (.iconst 1, 1) := by decide +kernel
theorem dX5_hasRightMen_12 : decode cX5_hasRightMen 12 = .ok (.ireturn, 1) := by decide +kernel
theorem dX5_hasRightMen_13 : decode cX5_hasRightMen 13 = .ok (.iconst 0, 1) := by decide +kernel
theorem dX5_hasRightMen_14 : decode cX5_hasRightMen 14 = .ok (.istore_n 2, 1) := by decide +kernel
theorem dX5_hasRightMen_15 : decode cX5_hasRightMen 15 = .ok (.iload_n 2, 1) := by decide +kernel
theorem dX5_hasRightMen_16 : decode cX5_hasRightMen 16 = .ok (.iconst 2, 1) := by decide +kernel
theorem dX5_hasRightMen_17 : decode cX5_hasRightMen 17 = .ok (.if_icmp .ge 123, 3) := by decide +kernel
theorem dX5_hasRightMen_20 : decode cX5_hasRightMen 20 = .ok (.iconst 0, 1) := by decide +kernel
theorem dX5_hasRightMen_21 : decode cX5_hasRightMen 21 = .ok (.istore_n 3, 1) := by decide +kernel
theorem dX5_hasRightMen_22 : decode cX5_hasRightMen 22 = .ok (.aload_n 1, 1) := by decide +kernel
theorem dX5_hasRightMen_23 : decode cX5_hasRightMen 23 = .ok (.getfield 33, 3) := by decide +kernel
theorem dX5_hasRightMen_26 : decode cX5_hasRightMen 26 = .ok (.iload_n 2, 1) := by decide +kernel
theorem dX5_hasRightMen_27 : decode cX5_hasRightMen 27 = .ok (.laload, 1) := by decide +kernel
theorem dX5_hasRightMen_28 : decode cX5_hasRightMen 28 = .ok (.lstore 4, 2) := by decide +kernel
theorem dX5_hasRightMen_30 : decode cX5_hasRightMen 30 = .ok (.iconst 0, 1) := by decide +kernel
theorem dX5_hasRightMen_31 : decode cX5_hasRightMen 31 = .ok (.istore 6, 2) := by decide +kernel
theorem dX5_hasRightMen_33 : decode cX5_hasRightMen 33 = .ok (.iload 6, 2) := by decide +kernel
theorem dX5_hasRightMen_35 : decode cX5_hasRightMen 35 = .ok (.bipush 64, 2) := by decide +kernel
theorem dX5_hasRightMen_37 : decode cX5_hasRightMen 37 = .ok (.if_icmp .ge 59, 3) := by decide +kernel
theorem dX5_hasRightMen_40 : decode cX5_hasRightMen 40 = .ok (.lload 4, 2) := by decide +kernel
theorem dX5_hasRightMen_42 : decode cX5_hasRightMen 42 = .ok (.lconst 0, 1) := by decide +kernel
theorem dX5_hasRightMen_43 : decode cX5_hasRightMen 43 = .ok (.lcmp, 1) := by decide +kernel
theorem dX5_hasRightMen_44 : decode cX5_hasRightMen 44 = .ok (.ifCond .eq 52, 3) := by decide +kernel
theorem dX5_hasRightMen_47 : decode cX5_hasRightMen 47 = .ok (.lload 4, 2) := by decide +kernel
theorem dX5_hasRightMen_49 : decode cX5_hasRightMen 49 = .ok (.invokestatic 85, 3) := by decide +kernel
theorem dX5_hasRightMen_52 : decode cX5_hasRightMen 52 = .ok (.istore 7, 2) := by decide +kernel
theorem dX5_hasRightMen_54 : decode cX5_hasRightMen 54 = .ok (.lload 4, 2) := by decide +kernel
theorem dX5_hasRightMen_56 : decode cX5_hasRightMen 56 = .ok (.lload 4, 2) := by decide +kernel
theorem dX5_hasRightMen_58 : decode cX5_hasRightMen 58 = .ok (.lconst 1, 1) := by decide +kernel
theorem dX5_hasRightMen_59 : decode cX5_hasRightMen 59 = .ok (.lsub, 1) := by decide +kernel
theorem dX5_hasRightMen_60 : decode cX5_hasRightMen 60 = .ok (.land, 1) := by decide +kernel
theorem dX5_hasRightMen_61 : decode cX5_hasRightMen 61 = .ok (.lstore 4, 2) := by decide +kernel
theorem dX5_hasRightMen_63 : decode cX5_hasRightMen 63 = .ok (.iload_n 3, 1) := by decide +kernel
theorem dX5_hasRightMen_64 : decode cX5_hasRightMen 64 = .ok (.aload_n 1, 1) := by decide +kernel
theorem dX5_hasRightMen_65 : decode cX5_hasRightMen 65 = .ok (.getfield 42, 3) := by decide +kernel
theorem dX5_hasRightMen_68 : decode cX5_hasRightMen 68 = .ok (.iload 7, 2) := by decide +kernel
theorem dX5_hasRightMen_70 : decode cX5_hasRightMen 70 = .ok (.baload, 1) := by decide +kernel
theorem dX5_hasRightMen_71 : decode cX5_hasRightMen 71 = .ok (.iconst 1, 1) := by decide +kernel
theorem dX5_hasRightMen_72 : decode cX5_hasRightMen 72 = .ok (.ishr, 1) := by decide +kernel
theorem dX5_hasRightMen_73 : decode cX5_hasRightMen 73 = .ok (.aload_n 0, 1) := by decide +kernel
theorem dX5_hasRightMen_74 : decode cX5_hasRightMen 74 = .ok (.getfield 22, 3) := by decide +kernel
theorem dX5_hasRightMen_77 : decode cX5_hasRightMen 77 = .ok (.getfield 129, 3) := by decide +kernel
theorem dX5_hasRightMen_80 : decode cX5_hasRightMen 80 = .ok (.if_icmp .ne 7, 3) := by decide +kernel
theorem dX5_hasRightMen_83 : decode cX5_hasRightMen 83 = .ok (.iconst 1, 1) := by decide +kernel
theorem dX5_hasRightMen_84 : decode cX5_hasRightMen 84 = .ok (.goto 4, 3) := by decide +kernel
theorem dX5_hasRightMen_87 : decode cX5_hasRightMen 87 = .ok (.iconst 0, 1) := by decide +kernel
theorem dX5_hasRightMen_88 : decode cX5_hasRightMen 88 = .ok (.iadd, 1) := by decide +kernel
theorem dX5_hasRightMen_89 : decode cX5_hasRightMen 89 = .ok (.istore_n 3, 1) := by decide +kernel
theorem dX5_hasRightMen_90 : decode cX5_hasRightMen 90 = .ok (.iinc 6 1, 3) := by decide +kernel
theorem dX5_hasRightMen_93 : decode cX5_hasRightMen 93 = .ok (.goto (-60), 3) := by decide +kernel
theorem dX5_hasRightMen_96 : decode cX5_hasRightMen 96 = .ok (.iload_n 3, 1) := by decide +kernel
theorem dX5_hasRightMen_97 : decode cX5_hasRightMen 97 = .ok (.iconst 1, 1) := by decide +kernel
theorem dX5_hasRightMen_98 : decode cX5_hasRightMen 98 = .ok (.if_icmp .gt 34, 3) := by decide +kernel
theorem dX5_hasRightMen_101 : decode cX5_hasRightMen 101 = .ok (.iload_n 3, 1) := by decide +kernel
theorem dX5_hasRightMen_102 : decode cX5_hasRightMen 102 = .ok (.ifCond .ne 15, 3) := by decide +kernel
theorem dX5_hasRightMen_105 : decode cX5_hasRightMen 105 = .ok (.aload_n 0, 1) := by decide +kernel
theorem dX5_hasRightMen_106 : decode cX5_hasRightMen 106 = .ok (.getfield 22, 3) := by decide +kernel
theorem dX5_hasRightMen_109 : decode cX5_hasRightMen 109 = .ok (.bipush 8, 2) := by decide +kernel
theorem dX5_hasRightMen_111 : decode cX5_hasRightMen 111 = .ok (.invokevirtual 104, 3) := by decide +kernel
theorem dX5_hasRightMen_114 : decode cX5_hasRightMen 114 = .ok (.ifCond .ne 18, 3) := by decide +kernel
theorem dX5_hasRightMen_117 : decode cX5_hasRightMen 117 = .ok (.aload_n 1, 1) := by decide +kernel
theorem dX5_hasRightMen_118 : decode cX5_hasRightMen 118 = .ok (.iload_n 2, 1) := by decide +kernel
theorem dX5_hasRightMen_119 : decode cX5_hasRightMen 119 = .ok (.aload_n 0, 1) := by decide +kernel
theorem dX5_hasRightMen_120 : decode cX5_hasRightMen 120 = .ok (.getfield 22, 3) := by decide +kernel
theorem dX5_hasRightMen_123 : decode cX5_hasRightMen 123 = .ok (.getfield 129, 3) := by decide +kernel
theorem dX5_hasRightMen_126 : decode cX5_hasRightMen 126 = .ok (.invokevirtual 209, 3) := by decide +kernel
theorem dX5_hasRightMen_129 : decode cX5_hasRightMen 129 = .ok (.ifCond .le 5, 3) := by decide +kernel
theorem dX5_hasRightMen_132 : decode cX5_hasRightMen 132 = .ok (.iconst 0, 1) := by decide +kernel
theorem dX5_hasRightMen_133 : decode cX5_hasRightMen 133 = .ok (.ireturn, 1) := by decide +kernel
theorem dX5_hasRightMen_134 : decode cX5_hasRightMen 134 = .ok (.iinc 2 1, 3) := by decide +kernel
theorem dX5_hasRightMen_137 : decode cX5_hasRightMen 137 = .ok (.goto (-122), 3) := by decide +kernel
theorem dX5_hasRightMen_140 : decode cX5_hasRightMen 140 = .ok (.iconst 1, 1) := by decide +kernel
theorem dX5_hasRightMen_141 : decode cX5_hasRightMen 141 = .ok (.ireturn, 1) := by decide +kernel
def sX5_hasRightMen_132 (F : Nat) (h : Hp) : Option (Int32 × Hp) := some ((0 : Int32), h)
def sX5_hasRightMen_117 (F : Nat) (k_15 : Hp → Nat → Nat → Int32 → Option (Int32 × Hp)) (h : Hp) (x0 : Nat) (x1 : Nat) (x2 : Int32) : Option (Int32 × Hp) := cl (hR h x0 0) fun r_1 => cl (sX3_inHand h x1 x2 (hI h r_1 4)) fun o_2 => br (o_2.1 ≤ 0) (nm (x2 + (1 : Int32)) fun v_4 => k_15 o_2.2 x0 x1 v_4) (sX5_hasRightMen_132 F o_2.2 )
def sX5_hasRightMen_96 (F : Nat) (k_15 : Hp → Nat → Nat → Int32 → Option (Int32 × Hp)) (h : Hp) (x0 : Nat) (x1 : Nat) (x2 : Int32) (x3 : Int32) : Option (Int32 × Hp) := br ((1 : Int32) < x3) (sX5_hasRightMen_132 F h ) (br (x3 = 0) (cl (hR h x0 0) fun r_3 => cl (sX1_has h r_3 (8 : Int32)) fun o_4 => br (o_4.1 = 0) (sX5_hasRightMen_117 F k_15 o_4.2 x0 x1 x2) (sX5_hasRightMen_132 F o_4.2 )) (sX5_hasRightMen_117 F k_15 h x0 x1 x2))
def sX5_hasRightMen_88 (F : Nat) (k_15 : Hp → Nat → Nat → Int32 → Option (Int32 × Hp)) (k_33 : Hp → Nat → Nat → Int32 → Int32 → Int64 → Int32 → Option (Int32 × Hp)) (h : Hp) (x0 : Nat) (x1 : Nat) (x2 : Int32) (x4 : Int64) (x6 : Int32) (t0 : Int32) (t1 : Int32) : Option (Int32 × Hp) := nm (t1 + t0) fun v_1 => nm (x6 + (1 : Int32)) fun v_2 => k_33 h x0 x1 x2 v_1 x4 v_2
def sX5_hasRightMen_33 (F : Nat) (k_15 : Hp → Nat → Nat → Int32 → Option (Int32 × Hp)) : Nat → Hp → Nat → Nat → Int32 → Int32 → Int64 → Int32 → Option (Int32 × Hp)
  | 0, _, _, _, _, _, _, _ => none
  | f + 1, h, x0, x1, x2, x3, x4, x6 => br ((64 : Int32) ≤ x6) (sX5_hasRightMen_96 F k_15 h x0 x1 x2 x3) (br ((lg_cmp x4 (0 : Int64)) = 0) (sX5_hasRightMen_96 F k_15 h x0 x1 x2 x3) (cl (sX11_lowest h x4) fun o_3 => nm (x4 &&& (x4 - (1 : Int64))) fun v_4 => cl (hR o_3.2 x1 0) fun r_5 => gd (inB o_3.1 (hN o_3.2 r_5)) <| cl (hR o_3.2 x0 0) fun r_7 => br (((hI o_3.2 r_5 o_3.1.toNatClampNeg) >>> ((1 : Int32) &&& 31)) = (hI o_3.2 r_7 4)) (sX5_hasRightMen_88 F k_15 (sX5_hasRightMen_33 F k_15 f) o_3.2 x0 x1 x2 v_4 x6 (1 : Int32) x3) (sX5_hasRightMen_88 F k_15 (sX5_hasRightMen_33 F k_15 f) o_3.2 x0 x1 x2 v_4 x6 (0 : Int32) x3)))
def sX5_hasRightMen_15 (F : Nat) : Nat → Hp → Nat → Nat → Int32 → Option (Int32 × Hp)
  | 0, _, _, _, _ => none
  | f + 1, h, x0, x1, x2 => br ((2 : Int32) ≤ x2) (some ((1 : Int32), h)) (cl (hR h x1 1) fun r_2 => gd (inB x2 (hN h r_2)) <| nm (hJ h r_2 x2.toNatClampNeg) fun v_4 => sX5_hasRightMen_33 F (sX5_hasRightMen_15 F f) F h x0 x1 x2 (0 : Int32) v_4 (0 : Int32))
def sX5_hasRightMen (F : Nat) (h : Hp) (x0 : Nat) (x1 : Nat) : Option (Int32 × Hp) := cl (hR h x0 0) fun r_1 => br ((hI h r_1 4) = (-1 : Int32)) (some ((1 : Int32), h)) (sX5_hasRightMen_15 F F h x0 x1 (0 : Int32))
set_option maxRecDepth 20000 in
theorem bX5_hasRightMen_132 {p : Program} {l : Launch} {e : Env} {s : State} {m : MethodId} {args : Array Value} {below : List Frame} {meth : Method} {c : Code} {X : Ec} {h0 : Hp} {o : Int32 × Hp} {F : Nat} (C : Cx X p s m args meth c RX5 cX5_hasRightMen 8 (some .boolean) "hasRightMen") {h : Hp} {H : Heap} {locs : List Loc} (hkm : Km h0 h) (hW : Wx X h H) (hZ : va_S (aA (eB X)) s.heap H locs) (ls : Array Slot) (hl : lv_has ls 8 []) (hE : sX5_hasRightMen_132 F h  = some o) : W p l e (rm 1 22) s m args below meth c H locs 0 0 (MQ below (QI X h0 o.1 o.2) args s 0 0 (aA (eB X))) (F0 m 132 ls []) := by
  refine lv_iconst (v := (0 : Int32)) C.1 C.2.1 dX5_hasRightMen_132 (by decide) ?_
  exact x_iret C rfl (by decide) hW hZ hkm hE dX5_hasRightMen_133
set_option maxRecDepth 20000 in
theorem bX5_hasRightMen_117 {p : Program} {l : Launch} {e : Env} {s : State} {m : MethodId} {args : Array Value} {below : List Frame} {meth : Method} {c : Code} {X : Ec} {h0 : Hp} {o : Int32 × Hp} {k_15 : Hp → Nat → Nat → Int32 → Option (Int32 × Hp)} {F : Nat} (C : Cx X p s m args meth c RX5 cX5_hasRightMen 8 (some .boolean) "hasRightMen") (hk_15 : ∀ (h : Hp) (x0 : Nat) (x1 : Nat) (x2 : Int32) (H : Heap) (locs : List Loc), hK h x0 = 5 → hK h x1 = 3 → Km h0 h → Wx X h H → va_S (aA (eB X)) s.heap H locs → ∀ (ls : Array Slot), lv_has ls 8 [(0, .ref x0), (1, .ref x1), (2, .int x2)] → k_15 h x0 x1 x2 = some o → W p l e (rm 1 22) s m args below meth c H locs 0 0 (MQ below (QI X h0 o.1 o.2) args s 0 0 (aA (eB X))) (F0 m 15 ls [])) {h : Hp} {x0 : Nat} {x1 : Nat} {x2 : Int32} {H : Heap} {locs : List Loc} (k_x0 : hK h x0 = 5) (k_x1 : hK h x1 = 3) (hkm : Km h0 h) (hW : Wx X h H) (hZ : va_S (aA (eB X)) s.heap H locs) (ls : Array Slot) (hl : lv_has ls 8 [(0, .ref x0), (1, .ref x1), (2, .int x2)]) (hE : sX5_hasRightMen_117 F k_15 h x0 x1 x2 = some o) : W p l e (rm 1 22) s m args below meth c H locs 0 0 (MQ below (QI X h0 o.1 o.2) args s 0 0 (aA (eB X))) (F0 m 117 ls []) := by
  refine lv_aload_n C.1 C.2.1 dX5_hasRightMen_117 rfl (lv_at hl 1 rfl) ?_
  refine lv_iload_n C.1 C.2.1 dX5_hasRightMen_118 rfl (lv_at hl 2 rfl) ?_
  refine lv_aload_n C.1 C.2.1 dX5_hasRightMen_119 rfl (lv_at hl 0 rfl) ?_
  obtain ⟨r_1, er_1, hE⟩ := cl_e hE
  refine gf_X5_22 C hW k_x0 er_1 dX5_hasRightMen_120 (fun k_r_1 => ?_)
  refine gf_X5_129 C hW k_r_1 dX5_hasRightMen_123 ?_
  obtain ⟨o_2, eo_2, hE⟩ := cl_e hE
  refine x_kI (o := o_2) (z_runV (As := [.int x2, .int (hI h r_1 4)]) (rest := []) C (ct_X3_inHand l X k_x1 eo_2) cw_X5_209 hW hZ k_x1 (by decide) rfl rfl rfl hl.1 (Nat.le_of_ble_eq_true rfl) rfl dX5_hasRightMen_126 ⟨Nat.le_of_ble_eq_true rfl, Nat.le_of_ble_eq_true rfl⟩ ⟨Nat.le_refl _, Nat.le_refl _⟩) hZ (fun _ _ hW km hZ => ?_)
  replace hkm := hkm.tr km
  replace k_x0 := km.at k_x0 (by decide)
  replace k_x1 := km.at k_x1 (by decide)
  refine lv_if_le (tgt := 134) C.1 C.2.1 dX5_hasRightMen_129 (by decide) (fun c_3 => ?_) (fun c_3 => ?_)
  · have hE := br_p hE c_3
    obtain ⟨v_4, ev_4, hE⟩ := nm_e2 hE
    refine lv_iinc (v := v_4) (lv' := [(2, .int v_4), (0, .ref x0), (1, .ref x1)]) C.1 C.2.1 dX5_hasRightMen_134 hl (k := 2) rfl (by rw [ev_4]; rfl) (by decide) rfl (fun ls hl => ?_)
    refine lv_goto (tgt := 15) C.1 C.2.1 dX5_hasRightMen_137 (by decide) ?_
    exact hk_15 _ _ _ _ _ _ k_x0 k_x1 hkm hW hZ _ (lv_sub hl [1, 2, 0] rfl) hE
  · have hE := br_n hE c_3
    exact bX5_hasRightMen_132 C hkm hW hZ _ (lv_sub hl [] rfl) hE
set_option maxRecDepth 20000 in
theorem bX5_hasRightMen_96 {p : Program} {l : Launch} {e : Env} {s : State} {m : MethodId} {args : Array Value} {below : List Frame} {meth : Method} {c : Code} {X : Ec} {h0 : Hp} {o : Int32 × Hp} {k_15 : Hp → Nat → Nat → Int32 → Option (Int32 × Hp)} {F : Nat} (C : Cx X p s m args meth c RX5 cX5_hasRightMen 8 (some .boolean) "hasRightMen") (hk_15 : ∀ (h : Hp) (x0 : Nat) (x1 : Nat) (x2 : Int32) (H : Heap) (locs : List Loc), hK h x0 = 5 → hK h x1 = 3 → Km h0 h → Wx X h H → va_S (aA (eB X)) s.heap H locs → ∀ (ls : Array Slot), lv_has ls 8 [(0, .ref x0), (1, .ref x1), (2, .int x2)] → k_15 h x0 x1 x2 = some o → W p l e (rm 1 22) s m args below meth c H locs 0 0 (MQ below (QI X h0 o.1 o.2) args s 0 0 (aA (eB X))) (F0 m 15 ls [])) {h : Hp} {x0 : Nat} {x1 : Nat} {x2 : Int32} {x3 : Int32} {H : Heap} {locs : List Loc} (k_x0 : hK h x0 = 5) (k_x1 : hK h x1 = 3) (hkm : Km h0 h) (hW : Wx X h H) (hZ : va_S (aA (eB X)) s.heap H locs) (ls : Array Slot) (hl : lv_has ls 8 [(0, .ref x0), (1, .ref x1), (2, .int x2), (3, .int x3)]) (hE : sX5_hasRightMen_96 F k_15 h x0 x1 x2 x3 = some o) : W p l e (rm 1 22) s m args below meth c H locs 0 0 (MQ below (QI X h0 o.1 o.2) args s 0 0 (aA (eB X))) (F0 m 96 ls []) := by
  refine lv_iload_n C.1 C.2.1 dX5_hasRightMen_96 rfl (lv_at hl 3 rfl) ?_
  refine lv_iconst (v := (1 : Int32)) C.1 C.2.1 dX5_hasRightMen_97 (by decide) ?_
  refine lv_icmp_gt (tgt := 132) C.1 C.2.1 dX5_hasRightMen_98 (by decide) (fun c_1 => ?_) (fun c_1 => ?_)
  · have hE := br_p hE c_1
    exact bX5_hasRightMen_132 C hkm hW hZ _ (lv_sub hl [] rfl) hE
  · have hE := br_n hE c_1
    refine lv_iload_n C.1 C.2.1 dX5_hasRightMen_101 rfl (lv_at hl 3 rfl) ?_
    refine lv_if_ne (tgt := 117) C.1 C.2.1 dX5_hasRightMen_102 (by decide) (fun c_2 => ?_) (fun c_2 => ?_)
    · have hE := br_n hE c_2
      exact bX5_hasRightMen_117 C hk_15 k_x0 k_x1 hkm hW hZ _ (lv_sub hl [0, 1, 2] rfl) hE
    · have hE := br_p hE c_2
      refine lv_aload_n C.1 C.2.1 dX5_hasRightMen_105 rfl (lv_at hl 0 rfl) ?_
      obtain ⟨r_3, er_3, hE⟩ := cl_e hE
      refine gf_X5_22 C hW k_x0 er_3 dX5_hasRightMen_106 (fun k_r_3 => ?_)
      refine lv_bipush (v := (8 : Int32)) C.1 C.2.1 dX5_hasRightMen_109 (by decide) ?_
      obtain ⟨o_4, eo_4, hE⟩ := cl_e hE
      refine x_kI (o := o_4) (z_runV (As := [.int (8 : Int32)]) (rest := []) C (ct_X1_has l X k_r_3 eo_4) cw_X5_104 hW hZ k_r_3 (by decide) rfl rfl rfl hl.1 (Nat.le_of_ble_eq_true rfl) rfl dX5_hasRightMen_111 ⟨Nat.le_of_ble_eq_true rfl, Nat.le_of_ble_eq_true rfl⟩ ⟨Nat.le_refl _, Nat.le_refl _⟩) hZ (fun _ _ hW km hZ => ?_)
      replace hkm := hkm.tr km
      replace k_x0 := km.at k_x0 (by decide)
      replace k_x1 := km.at k_x1 (by decide)
      refine lv_if_ne (tgt := 132) C.1 C.2.1 dX5_hasRightMen_114 (by decide) (fun c_5 => ?_) (fun c_5 => ?_)
      · have hE := br_n hE c_5
        exact bX5_hasRightMen_132 C hkm hW hZ _ (lv_sub hl [] rfl) hE
      · have hE := br_p hE c_5
        exact bX5_hasRightMen_117 C hk_15 k_x0 k_x1 hkm hW hZ _ (lv_sub hl [0, 1, 2] rfl) hE
set_option maxRecDepth 20000 in
theorem bX5_hasRightMen_88 {p : Program} {l : Launch} {e : Env} {s : State} {m : MethodId} {args : Array Value} {below : List Frame} {meth : Method} {c : Code} {X : Ec} {h0 : Hp} {o : Int32 × Hp} {k_15 : Hp → Nat → Nat → Int32 → Option (Int32 × Hp)} {k_33 : Hp → Nat → Nat → Int32 → Int32 → Int64 → Int32 → Option (Int32 × Hp)} {F : Nat} (C : Cx X p s m args meth c RX5 cX5_hasRightMen 8 (some .boolean) "hasRightMen") (hk_15 : ∀ (h : Hp) (x0 : Nat) (x1 : Nat) (x2 : Int32) (H : Heap) (locs : List Loc), hK h x0 = 5 → hK h x1 = 3 → Km h0 h → Wx X h H → va_S (aA (eB X)) s.heap H locs → ∀ (ls : Array Slot), lv_has ls 8 [(0, .ref x0), (1, .ref x1), (2, .int x2)] → k_15 h x0 x1 x2 = some o → W p l e (rm 1 22) s m args below meth c H locs 0 0 (MQ below (QI X h0 o.1 o.2) args s 0 0 (aA (eB X))) (F0 m 15 ls [])) (hk_33 : ∀ (h : Hp) (x0 : Nat) (x1 : Nat) (x2 : Int32) (x3 : Int32) (x4 : Int64) (x6 : Int32) (H : Heap) (locs : List Loc), hK h x0 = 5 → hK h x1 = 3 → Km h0 h → Wx X h H → va_S (aA (eB X)) s.heap H locs → ∀ (ls : Array Slot), lv_has ls 8 [(0, .ref x0), (1, .ref x1), (2, .int x2), (3, .int x3), (4, .long x4), (6, .int x6)] → k_33 h x0 x1 x2 x3 x4 x6 = some o → W p l e (rm 1 22) s m args below meth c H locs 0 0 (MQ below (QI X h0 o.1 o.2) args s 0 0 (aA (eB X))) (F0 m 33 ls [])) {h : Hp} {x0 : Nat} {x1 : Nat} {x2 : Int32} {x4 : Int64} {x6 : Int32} {t0 : Int32} {t1 : Int32} {H : Heap} {locs : List Loc} (k_x0 : hK h x0 = 5) (k_x1 : hK h x1 = 3) (hkm : Km h0 h) (hW : Wx X h H) (hZ : va_S (aA (eB X)) s.heap H locs) (ls : Array Slot) (hl : lv_has ls 8 [(0, .ref x0), (1, .ref x1), (2, .int x2), (4, .long x4), (6, .int x6)]) (hE : sX5_hasRightMen_88 F k_15 k_33 h x0 x1 x2 x4 x6 t0 t1 = some o) : W p l e (rm 1 22) s m args below meth c H locs 0 0 (MQ below (QI X h0 o.1 o.2) args s 0 0 (aA (eB X))) (F0 m 88 ls [.int t0, .int t1]) := by
  refine lv_iadd C.1 C.2.1 dX5_hasRightMen_88 ?_
  obtain ⟨v_1, ev_1, hE⟩ := nm_e2 hE
  refine x_nmI ev_1 ?_
  refine lv_istore_n (lv' := [(3, .int v_1), (0, .ref x0), (1, .ref x1), (2, .int x2), (4, .long x4), (6, .int x6)]) C.1 C.2.1 dX5_hasRightMen_89 rfl hl (by decide) rfl (fun ls hl => ?_)
  obtain ⟨v_2, ev_2, hE⟩ := nm_e2 hE
  refine lv_iinc (v := v_2) (lv' := [(6, .int v_2), (3, .int v_1), (0, .ref x0), (1, .ref x1), (2, .int x2), (4, .long x4)]) C.1 C.2.1 dX5_hasRightMen_90 hl (k := 5) rfl (by rw [ev_2]; rfl) (by decide) rfl (fun ls hl => ?_)
  refine lv_goto (tgt := 33) C.1 C.2.1 dX5_hasRightMen_93 (by decide) ?_
  exact hk_33 _ _ _ _ _ _ _ _ _ k_x0 k_x1 hkm hW hZ _ (lv_sub hl [2, 3, 4, 1, 5, 0] rfl) hE
set_option maxRecDepth 20000 in
theorem bX5_hasRightMen_33 {p : Program} {l : Launch} {e : Env} {s : State} {m : MethodId} {args : Array Value} {below : List Frame} {meth : Method} {c : Code} {X : Ec} {h0 : Hp} {o : Int32 × Hp} {k_15 : Hp → Nat → Nat → Int32 → Option (Int32 × Hp)} {F : Nat} (C : Cx X p s m args meth c RX5 cX5_hasRightMen 8 (some .boolean) "hasRightMen") (hk_15 : ∀ (h : Hp) (x0 : Nat) (x1 : Nat) (x2 : Int32) (H : Heap) (locs : List Loc), hK h x0 = 5 → hK h x1 = 3 → Km h0 h → Wx X h H → va_S (aA (eB X)) s.heap H locs → ∀ (ls : Array Slot), lv_has ls 8 [(0, .ref x0), (1, .ref x1), (2, .int x2)] → k_15 h x0 x1 x2 = some o → W p l e (rm 1 22) s m args below meth c H locs 0 0 (MQ below (QI X h0 o.1 o.2) args s 0 0 (aA (eB X))) (F0 m 15 ls [])) : ∀ (f : Nat) {h : Hp} {x0 : Nat} {x1 : Nat} {x2 : Int32} {x3 : Int32} {x4 : Int64} {x6 : Int32} {H : Heap} {locs : List Loc} (k_x0 : hK h x0 = 5) (k_x1 : hK h x1 = 3), Km h0 h → Wx X h H → va_S (aA (eB X)) s.heap H locs → ∀ (ls : Array Slot), lv_has ls 8 [(0, .ref x0), (1, .ref x1), (2, .int x2), (3, .int x3), (4, .long x4), (6, .int x6)] → sX5_hasRightMen_33 F k_15 f h x0 x1 x2 x3 x4 x6 = some o → W p l e (rm 1 22) s m args below meth c H locs 0 0 (MQ below (QI X h0 o.1 o.2) args s 0 0 (aA (eB X))) (F0 m 33 ls []) := by
  intro f
  induction f with
  | zero =>
    intro h x0 x1 x2 x3 x4 x6 H locs k_x0 k_x1 hkm hW hZ ls hl hE
    rw [sX5_hasRightMen_33] at hE
    cases hE
  | succ f ih =>
    intro h x0 x1 x2 x3 x4 x6 H locs k_x0 k_x1 hkm hW hZ ls hl hE
    rw [sX5_hasRightMen_33] at hE
    have hk_33 : ∀ (h : Hp) (x0 : Nat) (x1 : Nat) (x2 : Int32) (x3 : Int32) (x4 : Int64) (x6 : Int32) (H : Heap) (locs : List Loc), hK h x0 = 5 → hK h x1 = 3 → Km h0 h → Wx X h H → va_S (aA (eB X)) s.heap H locs → ∀ (ls : Array Slot), lv_has ls 8 [(0, .ref x0), (1, .ref x1), (2, .int x2), (3, .int x3), (4, .long x4), (6, .int x6)] → sX5_hasRightMen_33 F k_15 f h x0 x1 x2 x3 x4 x6 = some o → W p l e (rm 1 22) s m args below meth c H locs 0 0 (MQ below (QI X h0 o.1 o.2) args s 0 0 (aA (eB X))) (F0 m 33 ls []) := fun h x0 x1 x2 x3 x4 x6 H locs k_x0 k_x1 a b c ls hl hE => ih k_x0 k_x1 a b c ls hl hE
    refine lv_iload C.1 C.2.1 dX5_hasRightMen_33 (lv_at hl 5 rfl) ?_
    refine lv_bipush (v := (64 : Int32)) C.1 C.2.1 dX5_hasRightMen_35 (by decide) ?_
    refine lv_icmp_ge (tgt := 96) C.1 C.2.1 dX5_hasRightMen_37 (by decide) (fun c_1 => ?_) (fun c_1 => ?_)
    · have hE := br_p hE c_1
      exact bX5_hasRightMen_96 C hk_15 k_x0 k_x1 hkm hW hZ _ (lv_sub hl [0, 1, 2, 3] rfl) hE
    · have hE := br_n hE c_1
      refine lv_lload C.1 C.2.1 dX5_hasRightMen_40 (lv_at hl 4 rfl) ?_
      refine lv_lconst (v := (0 : Int64)) C.1 C.2.1 dX5_hasRightMen_42 (by decide) ?_
      refine W.lcmp C.1 C.2.1 dX5_hasRightMen_43 ?_
      refine lv_if_eq (tgt := 96) C.1 C.2.1 dX5_hasRightMen_44 (by decide) (fun c_2 => ?_) (fun c_2 => ?_)
      · have hE := br_p hE c_2
        exact bX5_hasRightMen_96 C hk_15 k_x0 k_x1 hkm hW hZ _ (lv_sub hl [0, 1, 2, 3] rfl) hE
      · have hE := br_n hE c_2
        refine lv_lload C.1 C.2.1 dX5_hasRightMen_47 (lv_at hl 4 rfl) ?_
        obtain ⟨o_3, eo_3, hE⟩ := cl_e hE
        refine x_kI (o := o_3) (x_runSN (As := [.long x4]) (rest := []) C (ct_X11_lowest l X eo_3) cn_X5_85 hW hZ rfl hl.1 (Nat.le_of_ble_eq_true rfl) rfl dX5_hasRightMen_49 ⟨Nat.le_of_ble_eq_true rfl, Nat.le_of_ble_eq_true rfl⟩ ⟨Nat.le_refl _, Nat.le_refl _⟩) hZ (fun _ _ hW km hZ => ?_)
        replace hkm := hkm.tr km
        replace k_x0 := km.at k_x0 (by decide)
        replace k_x1 := km.at k_x1 (by decide)
        refine lv_istore (lv' := [(7, .int o_3.1), (0, .ref x0), (1, .ref x1), (2, .int x2), (3, .int x3), (4, .long x4), (6, .int x6)]) C.1 C.2.1 dX5_hasRightMen_52 hl (by decide) rfl (fun ls hl => ?_)
        refine lv_lload C.1 C.2.1 dX5_hasRightMen_54 (lv_at hl 5 rfl) ?_
        refine lv_lload C.1 C.2.1 dX5_hasRightMen_56 (lv_at hl 5 rfl) ?_
        refine lv_lconst (v := (1 : Int64)) C.1 C.2.1 dX5_hasRightMen_58 (by decide) ?_
        refine lv_lsub C.1 C.2.1 dX5_hasRightMen_59 ?_
        refine lv_land C.1 C.2.1 dX5_hasRightMen_60 ?_
        obtain ⟨v_4, ev_4, hE⟩ := nm_e2 hE
        refine x_nmJ ev_4 ?_
        refine lv_lstore (lv' := [(4, .long v_4), (7, .int o_3.1), (0, .ref x0), (1, .ref x1), (2, .int x2), (3, .int x3), (6, .int x6)]) C.1 C.2.1 dX5_hasRightMen_61 hl (by decide) rfl (fun ls hl => ?_)
        refine lv_iload_n C.1 C.2.1 dX5_hasRightMen_63 rfl (lv_at hl 5 rfl) ?_
        refine lv_aload_n C.1 C.2.1 dX5_hasRightMen_64 rfl (lv_at hl 3 rfl) ?_
        obtain ⟨r_5, er_5, hE⟩ := cl_e hE
        refine gf_X5_42 C hW k_x1 er_5 dX5_hasRightMen_65 (fun k_r_5 => ?_)
        refine lv_iload C.1 C.2.1 dX5_hasRightMen_68 (lv_at hl 1 rfl) ?_
        obtain ⟨g_6, hE⟩ := gd_e hE
        refine y_bald C hW k_r_5 g_6 dX5_hasRightMen_70 ?_
        refine lv_iconst (v := (1 : Int32)) C.1 C.2.1 dX5_hasRightMen_71 (by decide) ?_
        refine lv_ishr C.1 C.2.1 dX5_hasRightMen_72 ?_
        refine lv_aload_n C.1 C.2.1 dX5_hasRightMen_73 rfl (lv_at hl 2 rfl) ?_
        obtain ⟨r_7, er_7, hE⟩ := cl_e hE
        refine gf_X5_22 C hW k_x0 er_7 dX5_hasRightMen_74 (fun k_r_7 => ?_)
        refine gf_X5_129 C hW k_r_7 dX5_hasRightMen_77 ?_
        refine lv_icmp_ne (tgt := 87) C.1 C.2.1 dX5_hasRightMen_80 (by decide) (fun c_8 => ?_) (fun c_8 => ?_)
        · have hE := br_n hE c_8
          refine lv_iconst (v := (0 : Int32)) C.1 C.2.1 dX5_hasRightMen_87 (by decide) ?_
          exact bX5_hasRightMen_88 C hk_15 hk_33 k_x0 k_x1 hkm hW hZ _ (lv_sub hl [2, 3, 4, 0, 6] rfl) hE
        · have hE := br_p hE c_8
          refine lv_iconst (v := (1 : Int32)) C.1 C.2.1 dX5_hasRightMen_83 (by decide) ?_
          refine lv_goto (tgt := 88) C.1 C.2.1 dX5_hasRightMen_84 (by decide) ?_
          exact bX5_hasRightMen_88 C hk_15 hk_33 k_x0 k_x1 hkm hW hZ _ (lv_sub hl [2, 3, 4, 0, 6] rfl) hE
set_option maxRecDepth 20000 in
theorem bX5_hasRightMen_15 {p : Program} {l : Launch} {e : Env} {s : State} {m : MethodId} {args : Array Value} {below : List Frame} {meth : Method} {c : Code} {X : Ec} {h0 : Hp} {o : Int32 × Hp} {F : Nat} (C : Cx X p s m args meth c RX5 cX5_hasRightMen 8 (some .boolean) "hasRightMen") : ∀ (f : Nat) {h : Hp} {x0 : Nat} {x1 : Nat} {x2 : Int32} {H : Heap} {locs : List Loc} (k_x0 : hK h x0 = 5) (k_x1 : hK h x1 = 3), Km h0 h → Wx X h H → va_S (aA (eB X)) s.heap H locs → ∀ (ls : Array Slot), lv_has ls 8 [(0, .ref x0), (1, .ref x1), (2, .int x2)] → sX5_hasRightMen_15 F f h x0 x1 x2 = some o → W p l e (rm 1 22) s m args below meth c H locs 0 0 (MQ below (QI X h0 o.1 o.2) args s 0 0 (aA (eB X))) (F0 m 15 ls []) := by
  intro f
  induction f with
  | zero =>
    intro h x0 x1 x2 H locs k_x0 k_x1 hkm hW hZ ls hl hE
    rw [sX5_hasRightMen_15] at hE
    cases hE
  | succ f ih =>
    intro h x0 x1 x2 H locs k_x0 k_x1 hkm hW hZ ls hl hE
    rw [sX5_hasRightMen_15] at hE
    have hk_15 : ∀ (h : Hp) (x0 : Nat) (x1 : Nat) (x2 : Int32) (H : Heap) (locs : List Loc), hK h x0 = 5 → hK h x1 = 3 → Km h0 h → Wx X h H → va_S (aA (eB X)) s.heap H locs → ∀ (ls : Array Slot), lv_has ls 8 [(0, .ref x0), (1, .ref x1), (2, .int x2)] → sX5_hasRightMen_15 F f h x0 x1 x2 = some o → W p l e (rm 1 22) s m args below meth c H locs 0 0 (MQ below (QI X h0 o.1 o.2) args s 0 0 (aA (eB X))) (F0 m 15 ls []) := fun h x0 x1 x2 H locs k_x0 k_x1 a b c ls hl hE => ih k_x0 k_x1 a b c ls hl hE
    refine lv_iload_n C.1 C.2.1 dX5_hasRightMen_15 rfl (lv_at hl 2 rfl) ?_
    refine lv_iconst (v := (2 : Int32)) C.1 C.2.1 dX5_hasRightMen_16 (by decide) ?_
    refine lv_icmp_ge (tgt := 140) C.1 C.2.1 dX5_hasRightMen_17 (by decide) (fun c_1 => ?_) (fun c_1 => ?_)
    · have hE := br_p hE c_1
      refine lv_iconst (v := (1 : Int32)) C.1 C.2.1 dX5_hasRightMen_140 (by decide) ?_
      exact x_iret C rfl (by decide) hW hZ hkm hE dX5_hasRightMen_141
    · have hE := br_n hE c_1
      refine lv_iconst (v := (0 : Int32)) C.1 C.2.1 dX5_hasRightMen_20 (by decide) ?_
      refine lv_istore_n (lv' := [(3, .int (0 : Int32)), (0, .ref x0), (1, .ref x1), (2, .int x2)]) C.1 C.2.1 dX5_hasRightMen_21 rfl hl (by decide) rfl (fun ls hl => ?_)
      refine lv_aload_n C.1 C.2.1 dX5_hasRightMen_22 rfl (lv_at hl 2 rfl) ?_
      obtain ⟨r_2, er_2, hE⟩ := cl_e hE
      refine gf_X5_33 C hW k_x1 er_2 dX5_hasRightMen_23 (fun k_r_2 => ?_)
      refine lv_iload_n C.1 C.2.1 dX5_hasRightMen_26 rfl (lv_at hl 3 rfl) ?_
      obtain ⟨g_3, hE⟩ := gd_e hE
      refine y_lald C hW k_r_2 g_3 dX5_hasRightMen_27 ?_
      obtain ⟨v_4, ev_4, hE⟩ := nm_e2 hE
      refine x_nmJ ev_4 ?_
      refine lv_lstore (lv' := [(4, .long v_4), (3, .int (0 : Int32)), (0, .ref x0), (1, .ref x1), (2, .int x2)]) C.1 C.2.1 dX5_hasRightMen_28 hl (by decide) rfl (fun ls hl => ?_)
      refine lv_iconst (v := (0 : Int32)) C.1 C.2.1 dX5_hasRightMen_30 (by decide) ?_
      refine lv_istore (lv' := [(6, .int (0 : Int32)), (4, .long v_4), (3, .int (0 : Int32)), (0, .ref x0), (1, .ref x1), (2, .int x2)]) C.1 C.2.1 dX5_hasRightMen_31 hl (by decide) rfl (fun ls hl => ?_)
      exact bX5_hasRightMen_33 C hk_15 F k_x0 k_x1 hkm hW hZ _ (lv_sub hl [3, 4, 5, 2, 1, 0] rfl) hE
set_option maxRecDepth 20000 in
theorem ct_X5_hasRightMen (l : Launch) (X : Ec) (F : Nat) {h : Hp} {x0 : Nat} {x1 : Nat} {o : Int32 × Hp} (k_x0 : hK h x0 = 5) (k_x1 : hK h x1 = 3) (hE : sX5_hasRightMen F h x0 x1 = some o) : MetI l yX5_hasRightMen cX5_hasRightMen 8 (some .boolean) 1 22 X [.ref x0, .ref x1] h o := by
  refine x_met (by decide) (Nat.le_of_ble_eq_true rfl) ?_
  intro p e s m below meth c ls C hl hW hZ
  have hl : lv_has ls 8 [(0, .ref x0), (1, .ref x1)] := hl
  have hkm : Km h h := Km.rf h
  refine lv_aload_n C.1 C.2.1 dX5_hasRightMen_0 rfl (lv_at hl 0 rfl) ?_
  obtain ⟨r_1, er_1, hE⟩ := cl_e hE
  refine gf_X5_22 C hW k_x0 er_1 dX5_hasRightMen_1 (fun k_r_1 => ?_)
  refine gf_X5_129 C hW k_r_1 dX5_hasRightMen_4 ?_
  refine lv_iconst (v := (-1 : Int32)) C.1 C.2.1 dX5_hasRightMen_7 (by decide) ?_
  refine lv_icmp_ne (tgt := 13) C.1 C.2.1 dX5_hasRightMen_8 (by decide) (fun c_2 => ?_) (fun c_2 => ?_)
  · have hE := br_n hE c_2
    refine lv_iconst (v := (0 : Int32)) C.1 C.2.1 dX5_hasRightMen_13 (by decide) ?_
    refine lv_istore_n (lv' := [(2, .int (0 : Int32)), (0, .ref x0), (1, .ref x1)]) C.1 C.2.1 dX5_hasRightMen_14 rfl hl (by decide) rfl (fun ls hl => ?_)
    exact bX5_hasRightMen_15 C F k_x0 k_x1 hkm hW hZ _ (lv_sub hl [1, 2, 0] rfl) hE
  · have hE := br_p hE c_2
    refine lv_iconst (v := (1 : Int32)) C.1 C.2.1 dX5_hasRightMen_11 (by decide) ?_
    exact x_iret C rfl (by decide) hW hZ hkm hE dX5_hasRightMen_12
theorem m_1058 : Cond.methodLink RX5 212 yX1_becomesOthers ∈ W0 := w0_in (List.mem_append_right _ (List.mem_of_getElem? (i := 1058) (by decide +kernel))) rfl
theorem m_1059 : Cond.methodLink RX5 187 yX1_isLast ∈ W0 := w0_in (List.mem_append_right _ (List.mem_of_getElem? (i := 1059) (by decide +kernel))) rfl
theorem cw_X5_212 : cwd RX5 212 yX1_becomesOthers cX1_becomesOthers 2 (some .boolean) false 1 := ⟨m_741, m_1058, m_4, ⟨m_739, m_740⟩, by decide, by decide, by decide +kernel⟩
theorem cw_X5_187 : cwd RX5 187 yX1_isLast cX1_isLast 3 (some .boolean) false 2 := ⟨m_1062, m_1059, m_4, ⟨m_1060, m_1061⟩, by decide, by decide, by decide +kernel⟩
theorem dX5_hasLateMan_0 : decode cX5_hasLateMan 0 = .ok (.aload_n 1, 1) := by decide +kernel
theorem dX5_hasLateMan_1 : decode cX5_hasLateMan 1 = .ok (.getfield 33, 3) := by decide +kernel
theorem dX5_hasLateMan_4 : decode cX5_hasLateMan 4 = .ok (.iconst 0, 1) := by decide +kernel
theorem dX5_hasLateMan_5 : decode cX5_hasLateMan 5 = .ok (.laload, 1) := by decide +kernel
theorem dX5_hasLateMan_6 : decode cX5_hasLateMan 6 = .ok (.aload_n 1, 1) := by decide +kernel
theorem dX5_hasLateMan_7 : decode cX5_hasLateMan 7 = .ok (.getfield 33, 3) := by decide +kernel
theorem dX5_hasLateMan_10 : decode cX5_hasLateMan 10 = .ok (.iconst 1, 1) := by decide +kernel
theorem dX5_hasLateMan_11 : decode cX5_hasLateMan 11 = .ok (.laload, 1) := by decide +kernel
theorem dX5_hasLateMan_12 : decode cX5_hasLateMan 12 = .ok (.lor, 1) := by decide +kernel
theorem dX5_hasLateMan_13 : decode cX5_hasLateMan 13 = .ok (.lstore_n 2, 1) := by decide +kernel
theorem dX5_hasLateMan_14 : decode cX5_hasLateMan 14 = .ok (.iconst 0, 1) := by decide +kernel
theorem dX5_hasLateMan_15 : decode cX5_hasLateMan 15 = .ok (.istore 4, 2) := by decide +kernel
theorem dX5_hasLateMan_17 : decode cX5_hasLateMan 17 = .ok (.iload 4, 2) := by decide +kernel
theorem dX5_hasLateMan_19 : decode cX5_hasLateMan 19 = .ok (.bipush 64, 2) := by decide +kernel
theorem dX5_hasLateMan_21 : decode cX5_hasLateMan 21 = .ok (.if_icmp .ge 68, 3) := by decide +kernel
theorem dX5_hasLateMan_24 : decode cX5_hasLateMan 24 = .ok (.lload_n 2, 1) := by decide +kernel
theorem dX5_hasLateMan_25 : decode cX5_hasLateMan 25 = .ok (.lconst 0, 1) := by decide +kernel
theorem dX5_hasLateMan_26 : decode cX5_hasLateMan 26 = .ok (.lcmp, 1) := by decide +kernel
theorem dX5_hasLateMan_27 : decode cX5_hasLateMan 27 = .ok (.ifCond .eq 62, 3) := by decide +kernel
theorem dX5_hasLateMan_30 : decode cX5_hasLateMan 30 = .ok (.lload_n 2, 1) := by decide +kernel
theorem dX5_hasLateMan_31 : decode cX5_hasLateMan 31 = .ok (.invokestatic 85, 3) := by decide +kernel
theorem dX5_hasLateMan_34 : decode cX5_hasLateMan 34 = .ok (.istore 5, 2) := by decide +kernel
theorem dX5_hasLateMan_36 : decode cX5_hasLateMan 36 = .ok (.lload_n 2, 1) := by decide +kernel
theorem dX5_hasLateMan_37 : decode cX5_hasLateMan 37 = .ok (.lload_n 2, 1) := by decide +kernel
theorem dX5_hasLateMan_38 : decode cX5_hasLateMan 38 = .ok (.lconst 1, 1) := by decide +kernel
theorem dX5_hasLateMan_39 : decode cX5_hasLateMan 39 = .ok (.lsub, 1) := by decide +kernel
theorem dX5_hasLateMan_40 : decode cX5_hasLateMan 40 = .ok (.land, 1) := by decide +kernel
theorem dX5_hasLateMan_41 : decode cX5_hasLateMan 41 = .ok (.lstore_n 2, 1) := by decide +kernel
theorem dX5_hasLateMan_42 : decode cX5_hasLateMan 42 = .ok (.aload_n 1, 1) := by decide +kernel
theorem dX5_hasLateMan_43 : decode cX5_hasLateMan 43 = .ok (.getfield 42, 3) := by decide +kernel
theorem dX5_hasLateMan_46 : decode cX5_hasLateMan 46 = .ok (.iload 5, 2) := by decide +kernel
theorem dX5_hasLateMan_48 : decode cX5_hasLateMan 48 = .ok (.baload, 1) := by decide +kernel
theorem dX5_hasLateMan_49 : decode cX5_hasLateMan 49 = .ok (.istore 6, 2) := by decide +kernel
theorem dX5_hasLateMan_51 : decode cX5_hasLateMan 51 = .ok (.aload_n 0, 1) := by decide +kernel
theorem dX5_hasLateMan_52 : decode cX5_hasLateMan 52 = .ok (.getfield 22, 3) := by decide +kernel
theorem dX5_hasLateMan_55 : decode cX5_hasLateMan 55 = .ok (.iload 6, 2) := by decide +kernel
theorem dX5_hasLateMan_57 : decode cX5_hasLateMan 57 = .ok (.iconst 1, 1) := by decide +kernel
theorem dX5_hasLateMan_58 : decode cX5_hasLateMan 58 = .ok (.ishr, 1) := by decide +kernel
theorem dX5_hasLateMan_59 : decode cX5_hasLateMan 59 = .ok (.invokevirtual 212, 3) := by decide +kernel
theorem dX5_hasLateMan_62 : decode cX5_hasLateMan 62 = .ok (.ifCond .eq 21, 3) := by decide +kernel
theorem dX5_hasLateMan_65 : decode cX5_hasLateMan 65 = .ok (.aload_n 0, 1) := by decide +kernel
theorem dX5_hasLateMan_66 : decode cX5_hasLateMan 66 = .ok (.getfield 22, 3) := by decide +kernel
theorem dX5_hasLateMan_69 : decode cX5_hasLateMan 69 = .ok (.iload 5, 2) := by decide +kernel
theorem dX5_hasLateMan_71 : decode cX5_hasLateMan 71 = .ok (.iload 6, 2) := by decide +kernel
theorem dX5_hasLateMan_73 : decode cX5_hasLateMan 73 = .ok (.iconst 1, 1) := by decide +kernel
theorem dX5_hasLateMan_74 : decode cX5_hasLateMan 74 = .ok (.iand, 1) := by decide +kernel
theorem dX5_hasLateMan_75 : decode cX5_hasLateMan 75 = .ok (.invokevirtual 187, 3) := by decide +kernel
theorem dX5_hasLateMan_78 : decode cX5_hasLateMan 78 = .ok (.ifCond .eq 5, 3) := by decide +kernel
theorem dX5_hasLateMan_81 : decode cX5_hasLateMan 81 = .ok (.iconst 1, 1) := by decide +kernel
theorem dX5_hasLateMan_82 : decode cX5_hasLateMan 82 = .ok (.ireturn, 1) := by decide +kernel
theorem dX5_hasLateMan_83 : decode cX5_hasLateMan 83 = .ok (.iinc 4 1, 3) := by decide +kernel
theorem dX5_hasLateMan_86 : decode cX5_hasLateMan 86 = .ok (.goto (-69), 3) := by decide +kernel
theorem dX5_hasLateMan_89 : decode cX5_hasLateMan 89 = .ok (.iconst 0, 1) := by decide +kernel
theorem dX5_hasLateMan_90 : decode cX5_hasLateMan 90 = .ok (.ireturn, 1) := by decide +kernel
def sX5_hasLateMan_89 (F : Nat) (h : Hp) : Option (Int32 × Hp) := some ((0 : Int32), h)
def sX5_hasLateMan_83 (F : Nat) (k_17 : Hp → Nat → Nat → Int64 → Int32 → Option (Int32 × Hp)) (h : Hp) (x0 : Nat) (x1 : Nat) (x2 : Int64) (x4 : Int32) : Option (Int32 × Hp) := nm (x4 + (1 : Int32)) fun v_1 => k_17 h x0 x1 x2 v_1
def sX5_hasLateMan_17 (F : Nat) : Nat → Hp → Nat → Nat → Int64 → Int32 → Option (Int32 × Hp)
  | 0, _, _, _, _, _ => none
  | f + 1, h, x0, x1, x2, x4 => br ((64 : Int32) ≤ x4) (sX5_hasLateMan_89 F h ) (br ((lg_cmp x2 (0 : Int64)) = 0) (sX5_hasLateMan_89 F h ) (cl (sX11_lowest h x2) fun o_3 => nm (x2 &&& (x2 - (1 : Int64))) fun v_4 => cl (hR o_3.2 x1 0) fun r_5 => gd (inB o_3.1 (hN o_3.2 r_5)) <| nm (hI o_3.2 r_5 o_3.1.toNatClampNeg) fun v_7 => cl (hR o_3.2 x0 0) fun r_8 => cl (sX1_becomesOthers o_3.2 r_8 (v_7 >>> ((1 : Int32) &&& 31))) fun o_9 => br (o_9.1 = 0) (sX5_hasLateMan_83 F (sX5_hasLateMan_17 F f) o_9.2 x0 x1 v_4 x4) (cl (hR o_9.2 x0 0) fun r_11 => cl (sX1_isLast o_9.2 r_11 o_3.1 (v_7 &&& (1 : Int32))) fun o_12 => br (o_12.1 = 0) (sX5_hasLateMan_83 F (sX5_hasLateMan_17 F f) o_12.2 x0 x1 v_4 x4) (some ((1 : Int32), o_12.2)))))
def sX5_hasLateMan (F : Nat) (h : Hp) (x0 : Nat) (x1 : Nat) : Option (Int32 × Hp) := cl (hR h x1 1) fun r_1 => gd (inB (0 : Int32) (hN h r_1)) <| cl (hR h x1 1) fun r_3 => gd (inB (1 : Int32) (hN h r_3)) <| nm ((hJ h r_1 (0 : Int32).toNatClampNeg) ||| (hJ h r_3 (1 : Int32).toNatClampNeg)) fun v_5 => sX5_hasLateMan_17 F F h x0 x1 v_5 (0 : Int32)
set_option maxRecDepth 20000 in
theorem bX5_hasLateMan_89 {p : Program} {l : Launch} {e : Env} {s : State} {m : MethodId} {args : Array Value} {below : List Frame} {meth : Method} {c : Code} {X : Ec} {h0 : Hp} {o : Int32 × Hp} {F : Nat} (C : Cx X p s m args meth c RX5 cX5_hasLateMan 7 (some .boolean) "hasLateMan") {h : Hp} {H : Heap} {locs : List Loc} (hkm : Km h0 h) (hW : Wx X h H) (hZ : va_S (aA (eB X)) s.heap H locs) (ls : Array Slot) (hl : lv_has ls 7 []) (hE : sX5_hasLateMan_89 F h  = some o) : W p l e (rm 1 22) s m args below meth c H locs 0 0 (MQ below (QI X h0 o.1 o.2) args s 0 0 (aA (eB X))) (F0 m 89 ls []) := by
  refine lv_iconst (v := (0 : Int32)) C.1 C.2.1 dX5_hasLateMan_89 (by decide) ?_
  exact x_iret C rfl (by decide) hW hZ hkm hE dX5_hasLateMan_90
set_option maxRecDepth 20000 in
theorem bX5_hasLateMan_83 {p : Program} {l : Launch} {e : Env} {s : State} {m : MethodId} {args : Array Value} {below : List Frame} {meth : Method} {c : Code} {X : Ec} {h0 : Hp} {o : Int32 × Hp} {k_17 : Hp → Nat → Nat → Int64 → Int32 → Option (Int32 × Hp)} {F : Nat} (C : Cx X p s m args meth c RX5 cX5_hasLateMan 7 (some .boolean) "hasLateMan") (hk_17 : ∀ (h : Hp) (x0 : Nat) (x1 : Nat) (x2 : Int64) (x4 : Int32) (H : Heap) (locs : List Loc), hK h x0 = 5 → hK h x1 = 3 → Km h0 h → Wx X h H → va_S (aA (eB X)) s.heap H locs → ∀ (ls : Array Slot), lv_has ls 7 [(0, .ref x0), (1, .ref x1), (2, .long x2), (4, .int x4)] → k_17 h x0 x1 x2 x4 = some o → W p l e (rm 1 22) s m args below meth c H locs 0 0 (MQ below (QI X h0 o.1 o.2) args s 0 0 (aA (eB X))) (F0 m 17 ls [])) {h : Hp} {x0 : Nat} {x1 : Nat} {x2 : Int64} {x4 : Int32} {H : Heap} {locs : List Loc} (k_x0 : hK h x0 = 5) (k_x1 : hK h x1 = 3) (hkm : Km h0 h) (hW : Wx X h H) (hZ : va_S (aA (eB X)) s.heap H locs) (ls : Array Slot) (hl : lv_has ls 7 [(0, .ref x0), (1, .ref x1), (2, .long x2), (4, .int x4)]) (hE : sX5_hasLateMan_83 F k_17 h x0 x1 x2 x4 = some o) : W p l e (rm 1 22) s m args below meth c H locs 0 0 (MQ below (QI X h0 o.1 o.2) args s 0 0 (aA (eB X))) (F0 m 83 ls []) := by
  obtain ⟨v_1, ev_1, hE⟩ := nm_e2 hE
  refine lv_iinc (v := v_1) (lv' := [(4, .int v_1), (0, .ref x0), (1, .ref x1), (2, .long x2)]) C.1 C.2.1 dX5_hasLateMan_83 hl (k := 3) rfl (by rw [ev_1]; rfl) (by decide) rfl (fun ls hl => ?_)
  refine lv_goto (tgt := 17) C.1 C.2.1 dX5_hasLateMan_86 (by decide) ?_
  exact hk_17 _ _ _ _ _ _ _ k_x0 k_x1 hkm hW hZ _ (lv_sub hl [1, 2, 3, 0] rfl) hE
set_option maxRecDepth 20000 in
theorem bX5_hasLateMan_17 {p : Program} {l : Launch} {e : Env} {s : State} {m : MethodId} {args : Array Value} {below : List Frame} {meth : Method} {c : Code} {X : Ec} {h0 : Hp} {o : Int32 × Hp} {F : Nat} (C : Cx X p s m args meth c RX5 cX5_hasLateMan 7 (some .boolean) "hasLateMan") : ∀ (f : Nat) {h : Hp} {x0 : Nat} {x1 : Nat} {x2 : Int64} {x4 : Int32} {H : Heap} {locs : List Loc} (k_x0 : hK h x0 = 5) (k_x1 : hK h x1 = 3), Km h0 h → Wx X h H → va_S (aA (eB X)) s.heap H locs → ∀ (ls : Array Slot), lv_has ls 7 [(0, .ref x0), (1, .ref x1), (2, .long x2), (4, .int x4)] → sX5_hasLateMan_17 F f h x0 x1 x2 x4 = some o → W p l e (rm 1 22) s m args below meth c H locs 0 0 (MQ below (QI X h0 o.1 o.2) args s 0 0 (aA (eB X))) (F0 m 17 ls []) := by
  intro f
  induction f with
  | zero =>
    intro h x0 x1 x2 x4 H locs k_x0 k_x1 hkm hW hZ ls hl hE
    rw [sX5_hasLateMan_17] at hE
    cases hE
  | succ f ih =>
    intro h x0 x1 x2 x4 H locs k_x0 k_x1 hkm hW hZ ls hl hE
    rw [sX5_hasLateMan_17] at hE
    have hk_17 : ∀ (h : Hp) (x0 : Nat) (x1 : Nat) (x2 : Int64) (x4 : Int32) (H : Heap) (locs : List Loc), hK h x0 = 5 → hK h x1 = 3 → Km h0 h → Wx X h H → va_S (aA (eB X)) s.heap H locs → ∀ (ls : Array Slot), lv_has ls 7 [(0, .ref x0), (1, .ref x1), (2, .long x2), (4, .int x4)] → sX5_hasLateMan_17 F f h x0 x1 x2 x4 = some o → W p l e (rm 1 22) s m args below meth c H locs 0 0 (MQ below (QI X h0 o.1 o.2) args s 0 0 (aA (eB X))) (F0 m 17 ls []) := fun h x0 x1 x2 x4 H locs k_x0 k_x1 a b c ls hl hE => ih k_x0 k_x1 a b c ls hl hE
    refine lv_iload C.1 C.2.1 dX5_hasLateMan_17 (lv_at hl 3 rfl) ?_
    refine lv_bipush (v := (64 : Int32)) C.1 C.2.1 dX5_hasLateMan_19 (by decide) ?_
    refine lv_icmp_ge (tgt := 89) C.1 C.2.1 dX5_hasLateMan_21 (by decide) (fun c_1 => ?_) (fun c_1 => ?_)
    · have hE := br_p hE c_1
      exact bX5_hasLateMan_89 C hkm hW hZ _ (lv_sub hl [] rfl) hE
    · have hE := br_n hE c_1
      refine lv_lload_n C.1 C.2.1 dX5_hasLateMan_24 rfl (lv_at hl 2 rfl) ?_
      refine lv_lconst (v := (0 : Int64)) C.1 C.2.1 dX5_hasLateMan_25 (by decide) ?_
      refine W.lcmp C.1 C.2.1 dX5_hasLateMan_26 ?_
      refine lv_if_eq (tgt := 89) C.1 C.2.1 dX5_hasLateMan_27 (by decide) (fun c_2 => ?_) (fun c_2 => ?_)
      · have hE := br_p hE c_2
        exact bX5_hasLateMan_89 C hkm hW hZ _ (lv_sub hl [] rfl) hE
      · have hE := br_n hE c_2
        refine lv_lload_n C.1 C.2.1 dX5_hasLateMan_30 rfl (lv_at hl 2 rfl) ?_
        obtain ⟨o_3, eo_3, hE⟩ := cl_e hE
        refine x_kI (o := o_3) (x_runSN (As := [.long x2]) (rest := []) C (ct_X11_lowest l X eo_3) cn_X5_85 hW hZ rfl hl.1 (Nat.le_of_ble_eq_true rfl) rfl dX5_hasLateMan_31 ⟨Nat.le_of_ble_eq_true rfl, Nat.le_of_ble_eq_true rfl⟩ ⟨Nat.le_refl _, Nat.le_refl _⟩) hZ (fun _ _ hW km hZ => ?_)
        replace hkm := hkm.tr km
        replace k_x0 := km.at k_x0 (by decide)
        replace k_x1 := km.at k_x1 (by decide)
        refine lv_istore (lv' := [(5, .int o_3.1), (0, .ref x0), (1, .ref x1), (2, .long x2), (4, .int x4)]) C.1 C.2.1 dX5_hasLateMan_34 hl (by decide) rfl (fun ls hl => ?_)
        refine lv_lload_n C.1 C.2.1 dX5_hasLateMan_36 rfl (lv_at hl 3 rfl) ?_
        refine lv_lload_n C.1 C.2.1 dX5_hasLateMan_37 rfl (lv_at hl 3 rfl) ?_
        refine lv_lconst (v := (1 : Int64)) C.1 C.2.1 dX5_hasLateMan_38 (by decide) ?_
        refine lv_lsub C.1 C.2.1 dX5_hasLateMan_39 ?_
        refine lv_land C.1 C.2.1 dX5_hasLateMan_40 ?_
        obtain ⟨v_4, ev_4, hE⟩ := nm_e2 hE
        refine x_nmJ ev_4 ?_
        refine lv_lstore_n (lv' := [(2, .long v_4), (5, .int o_3.1), (0, .ref x0), (1, .ref x1), (4, .int x4)]) C.1 C.2.1 dX5_hasLateMan_41 rfl hl (by decide) rfl (fun ls hl => ?_)
        refine lv_aload_n C.1 C.2.1 dX5_hasLateMan_42 rfl (lv_at hl 3 rfl) ?_
        obtain ⟨r_5, er_5, hE⟩ := cl_e hE
        refine gf_X5_42 C hW k_x1 er_5 dX5_hasLateMan_43 (fun k_r_5 => ?_)
        refine lv_iload C.1 C.2.1 dX5_hasLateMan_46 (lv_at hl 1 rfl) ?_
        obtain ⟨g_6, hE⟩ := gd_e hE
        refine y_bald C hW k_r_5 g_6 dX5_hasLateMan_48 ?_
        obtain ⟨v_7, ev_7, hE⟩ := nm_e2 hE
        refine x_nmI ev_7 ?_
        refine lv_istore (lv' := [(6, .int v_7), (2, .long v_4), (5, .int o_3.1), (0, .ref x0), (1, .ref x1), (4, .int x4)]) C.1 C.2.1 dX5_hasLateMan_49 hl (by decide) rfl (fun ls hl => ?_)
        refine lv_aload_n C.1 C.2.1 dX5_hasLateMan_51 rfl (lv_at hl 3 rfl) ?_
        obtain ⟨r_8, er_8, hE⟩ := cl_e hE
        refine gf_X5_22 C hW k_x0 er_8 dX5_hasLateMan_52 (fun k_r_8 => ?_)
        refine lv_iload C.1 C.2.1 dX5_hasLateMan_55 (lv_at hl 0 rfl) ?_
        refine lv_iconst (v := (1 : Int32)) C.1 C.2.1 dX5_hasLateMan_57 (by decide) ?_
        refine lv_ishr C.1 C.2.1 dX5_hasLateMan_58 ?_
        obtain ⟨o_9, eo_9, hE⟩ := cl_e hE
        refine x_kI (o := o_9) (z_runV (As := [.int (v_7 >>> ((1 : Int32) &&& 31))]) (rest := []) C (ct_X1_becomesOthers l X k_r_8 eo_9) cw_X5_212 hW hZ k_r_8 (by decide) rfl rfl rfl hl.1 (Nat.le_of_ble_eq_true rfl) rfl dX5_hasLateMan_59 ⟨Nat.le_of_ble_eq_true rfl, Nat.le_of_ble_eq_true rfl⟩ ⟨Nat.le_refl _, Nat.le_refl _⟩) hZ (fun _ _ hW km hZ => ?_)
        replace hkm := hkm.tr km
        replace k_x0 := km.at k_x0 (by decide)
        replace k_x1 := km.at k_x1 (by decide)
        refine lv_if_eq (tgt := 83) C.1 C.2.1 dX5_hasLateMan_62 (by decide) (fun c_10 => ?_) (fun c_10 => ?_)
        · have hE := br_p hE c_10
          exact bX5_hasLateMan_83 C hk_17 k_x0 k_x1 hkm hW hZ _ (lv_sub hl [3, 4, 1, 5] rfl) hE
        · have hE := br_n hE c_10
          refine lv_aload_n C.1 C.2.1 dX5_hasLateMan_65 rfl (lv_at hl 3 rfl) ?_
          obtain ⟨r_11, er_11, hE⟩ := cl_e hE
          refine gf_X5_22 C hW k_x0 er_11 dX5_hasLateMan_66 (fun k_r_11 => ?_)
          refine lv_iload C.1 C.2.1 dX5_hasLateMan_69 (lv_at hl 2 rfl) ?_
          refine lv_iload C.1 C.2.1 dX5_hasLateMan_71 (lv_at hl 0 rfl) ?_
          refine lv_iconst (v := (1 : Int32)) C.1 C.2.1 dX5_hasLateMan_73 (by decide) ?_
          refine lv_iand C.1 C.2.1 dX5_hasLateMan_74 ?_
          obtain ⟨o_12, eo_12, hE⟩ := cl_e hE
          refine x_kI (o := o_12) (z_runV (As := [.int o_3.1, .int (v_7 &&& (1 : Int32))]) (rest := []) C (ct_X1_isLast l X k_r_11 eo_12) cw_X5_187 hW hZ k_r_11 (by decide) rfl rfl rfl hl.1 (Nat.le_of_ble_eq_true rfl) rfl dX5_hasLateMan_75 ⟨Nat.le_of_ble_eq_true rfl, Nat.le_of_ble_eq_true rfl⟩ ⟨Nat.le_refl _, Nat.le_refl _⟩) hZ (fun _ _ hW km hZ => ?_)
          replace hkm := hkm.tr km
          replace k_x0 := km.at k_x0 (by decide)
          replace k_x1 := km.at k_x1 (by decide)
          refine lv_if_eq (tgt := 83) C.1 C.2.1 dX5_hasLateMan_78 (by decide) (fun c_13 => ?_) (fun c_13 => ?_)
          · have hE := br_p hE c_13
            exact bX5_hasLateMan_83 C hk_17 k_x0 k_x1 hkm hW hZ _ (lv_sub hl [3, 4, 1, 5] rfl) hE
          · have hE := br_n hE c_13
            refine lv_iconst (v := (1 : Int32)) C.1 C.2.1 dX5_hasLateMan_81 (by decide) ?_
            exact x_iret C rfl (by decide) hW hZ hkm hE dX5_hasLateMan_82
set_option maxRecDepth 20000 in
theorem ct_X5_hasLateMan (l : Launch) (X : Ec) (F : Nat) {h : Hp} {x0 : Nat} {x1 : Nat} {o : Int32 × Hp} (k_x0 : hK h x0 = 5) (k_x1 : hK h x1 = 3) (hE : sX5_hasLateMan F h x0 x1 = some o) : MetI l yX5_hasLateMan cX5_hasLateMan 7 (some .boolean) 1 22 X [.ref x0, .ref x1] h o := by
  refine x_met (by decide) (Nat.le_of_ble_eq_true rfl) ?_
  intro p e s m below meth c ls C hl hW hZ
  have hl : lv_has ls 7 [(0, .ref x0), (1, .ref x1)] := hl
  have hkm : Km h h := Km.rf h
  refine lv_aload_n C.1 C.2.1 dX5_hasLateMan_0 rfl (lv_at hl 1 rfl) ?_
  obtain ⟨r_1, er_1, hE⟩ := cl_e hE
  refine gf_X5_33 C hW k_x1 er_1 dX5_hasLateMan_1 (fun k_r_1 => ?_)
  refine lv_iconst (v := (0 : Int32)) C.1 C.2.1 dX5_hasLateMan_4 (by decide) ?_
  obtain ⟨g_2, hE⟩ := gd_e hE
  refine y_lald C hW k_r_1 g_2 dX5_hasLateMan_5 ?_
  refine lv_aload_n C.1 C.2.1 dX5_hasLateMan_6 rfl (lv_at hl 1 rfl) ?_
  obtain ⟨r_3, er_3, hE⟩ := cl_e hE
  refine gf_X5_33 C hW k_x1 er_3 dX5_hasLateMan_7 (fun k_r_3 => ?_)
  refine lv_iconst (v := (1 : Int32)) C.1 C.2.1 dX5_hasLateMan_10 (by decide) ?_
  obtain ⟨g_4, hE⟩ := gd_e hE
  refine y_lald C hW k_r_3 g_4 dX5_hasLateMan_11 ?_
  refine lv_lor C.1 C.2.1 dX5_hasLateMan_12 ?_
  obtain ⟨v_5, ev_5, hE⟩ := nm_e2 hE
  refine x_nmJ ev_5 ?_
  refine lv_lstore_n (lv' := [(2, .long v_5), (0, .ref x0), (1, .ref x1)]) C.1 C.2.1 dX5_hasLateMan_13 rfl hl (by decide) rfl (fun ls hl => ?_)
  refine lv_iconst (v := (0 : Int32)) C.1 C.2.1 dX5_hasLateMan_14 (by decide) ?_
  refine lv_istore (lv' := [(4, .int (0 : Int32)), (2, .long v_5), (0, .ref x0), (1, .ref x1)]) C.1 C.2.1 dX5_hasLateMan_15 hl (by decide) rfl (fun ls hl => ?_)
  exact bX5_hasLateMan_17 C F k_x0 k_x1 hkm hW hZ _ (lv_sub hl [2, 3, 1, 0] rfl) hE
theorem m_75 : Cond.fieldLink RX5 110 (TX1 2).1 (TX1 2).2.1 (TX1 2).2.2.1 ∈ W0 := w0_in (List.mem_append_right _ (List.mem_of_getElem? (i := 75) (by decide +kernel))) rfl
theorem m_99 : Cond.fieldLink RX5 248 (TX1 6).1 (TX1 6).2.1 (TX1 6).2.2.1 ∈ W0 := w0_in (List.mem_append_right _ (List.mem_of_getElem? (i := 99) (by decide +kernel))) rfl
theorem m_287 : Cond.fieldLink RX5 60 (TX3 2).1 (TX3 2).2.1 (TX3 2).2.2.1 ∈ W0 := w0_in (List.mem_append_right _ (List.mem_of_getElem? (i := 287) (by decide +kernel))) rfl
theorem m_312 : Cond.fieldLink RX5 93 (TX3 8).1 (TX3 8).2.1 (TX3 8).2.2.1 ∈ W0 := w0_in (List.mem_append_right _ (List.mem_of_getElem? (i := 312) (by decide +kernel))) rfl
theorem m_1067 : Cond.methodLink RX5 332 yX1_isFirst ∈ W0 := w0_in (List.mem_append_right _ (List.mem_of_getElem? (i := 1067) (by decide +kernel))) rfl
theorem m_1068 : Cond.instanceMethod yX1_isFirst ∈ W0 := w0_in (List.mem_append_right _ (List.mem_of_getElem? (i := 1068) (by decide +kernel))) rfl
theorem m_1069 : Cond.selects RX1 yX1_isFirst yX1_isFirst ∈ W0 := w0_in (List.mem_append_right _ (List.mem_of_getElem? (i := 1069) (by decide +kernel))) rfl
theorem m_1070 : Cond.code yX1_isFirst cX1_isFirst 3 (some .boolean) ∈ W0 := w0_in (List.mem_append_right _ (List.mem_of_getElem? (i := 1070) (by decide +kernel))) rfl
section
variable {p : Program} {l : Launch} {e : Env} {R : Room} {s : State} {m : MethodId} {args : Array Value} {below : List Frame} {meth : Method} {c : Code} {H : Heap} {locs : List Loc} {cells slots : Nat} {Q : State → Prop}
variable {cc : ByteArray} {pc : Nat} {ls : Array Slot} {rest : List Value} {X : Ec} {h h1 : Hp} {nL : Nat} {rt : Option FieldType} {mn : String}
theorem gf_X5_110 {a : Nat} (C : Cx X p s m args meth c RX5 cc nL rt mn) (hW : Wx X h H) (ha : hK h a = 1) (hdg : decode cc pc = .ok (.getfield 110, 3)) (kk : W p l e R s m args below meth c H locs cells slots Q (F0 m (pc + 3) ls (.int (hI h a 2) :: rest))) : W p l e R s m args below meth c H locs cells slots Q (F0 m pc ls (.ref a :: rest)) :=
  y_geti C hW ha i_X1 (by decide) rfl (by decide) m_75 rfl hdg kk
theorem gf_X5_93 {a : Nat} (C : Cx X p s m args meth c RX5 cc nL rt mn) (hW : Wx X h H) (ha : hK h a = 3) (hdg : decode cc pc = .ok (.getfield 93, 3)) (kk : W p l e R s m args below meth c H locs cells slots Q (F0 m (pc + 3) ls (.long (hJ h a 8) :: rest))) : W p l e R s m args below meth c H locs cells slots Q (F0 m pc ls (.ref a :: rest)) :=
  y_getj C hW ha i_X3 (by decide) rfl (by decide) m_312 rfl hdg kk
theorem gf_X5_248 {a : Nat} (C : Cx X p s m args meth c RX5 cc nL rt mn) (hW : Wx X h H) (ha : hK h a = 1) (hdg : decode cc pc = .ok (.getfield 248, 3)) (kk : W p l e R s m args below meth c H locs cells slots Q (F0 m (pc + 3) ls (.int (hI h a 6) :: rest))) : W p l e R s m args below meth c H locs cells slots Q (F0 m pc ls (.ref a :: rest)) :=
  y_geti C hW ha i_X1 (by decide) rfl (by decide) m_99 rfl hdg kk
theorem gf_X5_60 {a r : Nat} (C : Cx X p s m args meth c RX5 cc nL rt mn) (hW : Wx X h H) (ha : hK h a = 3) (hr : hR h a 2 = some r) (hdg : decode cc pc = .ok (.getfield 60, 3)) (kk : hK h r = 17 → W p l e R s m args below meth c H locs cells slots Q (F0 m (pc + 3) ls (.ref r :: rest))) : W p l e R s m args below meth c H locs cells slots Q (F0 m pc ls (.ref a :: rest)) :=
  y_getr C hW ha i_X3 (by decide) rfl (by decide) m_287 rfl rfl hr hdg kk
end
theorem cw_X5_332 : cwd RX5 332 yX1_isFirst cX1_isFirst 3 (some .boolean) false 2 := ⟨m_1070, m_1067, m_4, ⟨m_1068, m_1069⟩, by decide, by decide, by decide +kernel⟩
theorem dX5_hasRightRights_0 : decode cX5_hasRightRights 0 = .ok (.iconst 0, 1) := by decide +kernel
theorem dX5_hasRightRights_1 : decode cX5_hasRightRights 1 = .ok (.istore_n 2, 1) := by decide +kernel
theorem dX5_hasRightRights_2 : decode cX5_hasRightRights 2 = .ok (.iload_n 2, 1) := by decide +kernel
theorem dX5_hasRightRights_3 : decode cX5_hasRightRights 3 = .ok (.aload_n 0, 1) := by decide +kernel
theorem dX5_hasRightRights_4 : decode cX5_hasRightRights 4 = .ok (.getfield 22, 3) := by decide +kernel
theorem dX5_hasRightRights_7 : decode cX5_hasRightRights 7 = .ok (.getfield 110, 3) := by decide +kernel
theorem dX5_hasRightRights_10 : decode cX5_hasRightRights 10 = .ok (.if_icmp .ge 119, 3) := by decide +kernel
theorem dX5_hasRightRights_13 : decode cX5_hasRightRights 13 = .ok (.aload_n 1, 1) := by decide +kernel
theorem dX5_hasRightRights_14 : decode cX5_hasRightRights 14 = .ok (.getfield 93, 3) := by decide +kernel
theorem dX5_hasRightRights_17 : decode cX5_hasRightRights 17 = .ok (.lconst 0, 1) := by decide +kernel
theorem dX5_hasRightRights_18 : decode cX5_hasRightRights 18 = .ok (.lcmp, 1) := by decide +kernel
theorem dX5_hasRightRights_19 : decode cX5_hasRightRights 19 = .ok (.ifCond .eq 110, 3) := by decide +kernel
theorem dX5_hasRightRights_22 : decode cX5_hasRightRights 22 = .ok (.aload_n 1, 1) := by decide +kernel
theorem dX5_hasRightRights_23 : decode cX5_hasRightRights 23 = .ok (.getfield 93, 3) := by decide +kernel
theorem dX5_hasRightRights_26 : decode cX5_hasRightRights 26 = .ok (.iload_n 2, 1) := by decide +kernel
theorem dX5_hasRightRights_27 : decode cX5_hasRightRights 27 = .ok (.lushr, 1) := by decide +kernel
theorem dX5_hasRightRights_28 : decode cX5_hasRightRights 28 = .ok (.lconst 1, 1) := by decide +kernel
theorem dX5_hasRightRights_29 : decode cX5_hasRightRights 29 = .ok (.land, 1) := by decide +kernel
theorem dX5_hasRightRights_30 : decode cX5_hasRightRights 30 = .ok (.lconst 0, 1) := by decide +kernel
theorem dX5_hasRightRights_31 : decode cX5_hasRightRights 31 = .ok (.lcmp, 1) := by decide +kernel
theorem dX5_hasRightRights_32 : decode cX5_hasRightRights 32 = .ok (.ifCond .ne 6, 3) := by decide +kernel
theorem dX5_hasRightRights_35 : decode cX5_hasRightRights 35 = .ok (.goto 88, 3) := by decide +kernel
theorem dX5_hasRightRights_38 : decode cX5_hasRightRights 38 = .ok (.aload_n 1, 1) := by decide +kernel
theorem dX5_hasRightRights_39 : decode cX5_hasRightRights 39 = .ok (.getfield 42, 3) := by decide +kernel
theorem dX5_hasRightRights_42 : decode cX5_hasRightRights 42 = .ok (.iload_n 2, 1) := by decide +kernel
theorem dX5_hasRightRights_43 : decode cX5_hasRightRights 43 = .ok (.baload, 1) := by decide +kernel
theorem dX5_hasRightRights_44 : decode cX5_hasRightRights 44 = .ok (.istore_n 3, 1) := by decide +kernel
theorem dX5_hasRightRights_45 : decode cX5_hasRightRights 45 = .ok (.aload_n 0, 1) := by decide +kernel
theorem dX5_hasRightRights_46 : decode cX5_hasRightRights 46 = .ok (.getfield 22, 3) := by decide +kernel
theorem dX5_hasRightRights_49 : decode cX5_hasRightRights 49 = .ok (.getfield 248, 3) := by decide +kernel
theorem dX5_hasRightRights_52 : decode cX5_hasRightRights 52 = .ok (.iconst (-1), 1) := by decide +kernel
theorem dX5_hasRightRights_53 : decode cX5_hasRightRights 53 = .ok (.if_icmp .eq 35, 3) := by decide +kernel
theorem dX5_hasRightRights_56 : decode cX5_hasRightRights 56 = .ok (.iload_n 3, 1) := by decide +kernel
theorem dX5_hasRightRights_57 : decode cX5_hasRightRights 57 = .ok (.iconst (-1), 1) := by decide +kernel
theorem dX5_hasRightRights_58 : decode cX5_hasRightRights 58 = .ok (.if_icmp .eq 30, 3) := by decide +kernel
theorem dX5_hasRightRights_61 : decode cX5_hasRightRights 61 = .ok (.iload_n 3, 1) := by decide +kernel
theorem dX5_hasRightRights_62 : decode cX5_hasRightRights 62 = .ok (.iconst 1, 1) := by decide +kernel
theorem dX5_hasRightRights_63 : decode cX5_hasRightRights 63 = .ok (.ishr, 1) := by decide +kernel
theorem dX5_hasRightRights_64 : decode cX5_hasRightRights 64 = .ok (.aload_n 0, 1) := by decide +kernel
theorem dX5_hasRightRights_65 : decode cX5_hasRightRights 65 = .ok (.getfield 22, 3) := by decide +kernel
theorem dX5_hasRightRights_68 : decode cX5_hasRightRights 68 = .ok (.getfield 248, 3) := by decide +kernel
theorem dX5_hasRightRights_71 : decode cX5_hasRightRights 71 = .ok (.if_icmp .ne 17, 3) := by decide +kernel
theorem dX5_hasRightRights_74 : decode cX5_hasRightRights 74 = .ok (.aload_n 0, 1) := by decide +kernel
theorem dX5_hasRightRights_75 : decode cX5_hasRightRights 75 = .ok (.getfield 22, 3) := by decide +kernel
theorem dX5_hasRightRights_78 : decode cX5_hasRightRights 78 = .ok (.iload_n 2, 1) := by decide +kernel
theorem dX5_hasRightRights_79 : decode cX5_hasRightRights 79 = .ok (.iload_n 3, 1) := by decide +kernel
theorem dX5_hasRightRights_80 : decode cX5_hasRightRights 80 = .ok (.iconst 1, 1) := by decide +kernel
theorem dX5_hasRightRights_81 : decode cX5_hasRightRights 81 = .ok (.iand, 1) := by decide +kernel
theorem dX5_hasRightRights_82 : decode cX5_hasRightRights 82 = .ok (.invokevirtual 332, 3) := by decide +kernel
theorem dX5_hasRightRights_85 : decode cX5_hasRightRights 85 = .ok (.ifCond .ne 5, 3) := by decide +kernel
theorem dX5_hasRightRights_88 : decode cX5_hasRightRights 88 = .ok (.iconst 0, 1) := by decide +kernel
theorem dX5_hasRightRights_89 : decode cX5_hasRightRights 89 = .ok (.ireturn, 1) := by decide +kernel
theorem dX5_hasRightRights_90 : decode cX5_hasRightRights 90 = .ok (.aload_n 1, 1) := by decide +kernel
theorem dX5_hasRightRights_91 : decode cX5_hasRightRights 91 = .ok (.getfield 60, 3) := by decide +kernel
theorem dX5_hasRightRights_94 : decode cX5_hasRightRights 94 = .ok (.iload_n 3, 1) := by decide +kernel
theorem dX5_hasRightRights_95 : decode cX5_hasRightRights 95 = .ok (.iconst 1, 1) := by decide +kernel
theorem dX5_hasRightRights_96 : decode cX5_hasRightRights 96 = .ok (.iand, 1) := by decide +kernel
theorem dX5_hasRightRights_97 : decode cX5_hasRightRights 97 = .ok (.iaload, 1) := by decide +kernel
theorem dX5_hasRightRights_98 : decode cX5_hasRightRights 98 = .ok (.istore 4, 2) := by decide +kernel
theorem dX5_hasRightRights_100 : decode cX5_hasRightRights 100 = .ok (.iload 4, 2) := by decide +kernel
theorem dX5_hasRightRights_102 : decode cX5_hasRightRights 102 = .ok (.iconst (-1), 1) := by decide +kernel
theorem dX5_hasRightRights_103 : decode cX5_hasRightRights 103 = .ok (.if_icmp .eq 18, 3) := by decide +kernel
theorem dX5_hasRightRights_106 : decode cX5_hasRightRights 106 = .ok (.aload_n 0, 1) := by decide +kernel
theorem dX5_hasRightRights_107 : decode cX5_hasRightRights 107 = .ok (.getfield 22, 3) := by decide +kernel
theorem dX5_hasRightRights_110 : decode cX5_hasRightRights 110 = .ok (.iload 4, 2) := by decide +kernel
theorem dX5_hasRightRights_112 : decode cX5_hasRightRights 112 = .ok (.iload_n 3, 1) := by decide +kernel
theorem dX5_hasRightRights_113 : decode cX5_hasRightRights 113 = .ok (.iconst 1, 1) := by decide +kernel
theorem dX5_hasRightRights_114 : decode cX5_hasRightRights 114 = .ok (.iand, 1) := by decide +kernel
theorem dX5_hasRightRights_115 : decode cX5_hasRightRights 115 = .ok (.invokevirtual 332, 3) := by decide +kernel
theorem dX5_hasRightRights_118 : decode cX5_hasRightRights 118 = .ok (.ifCond .ne 5, 3) := by decide +kernel
theorem dX5_hasRightRights_121 : decode cX5_hasRightRights 121 = .ok (.iconst 0, 1) := by decide +kernel
theorem dX5_hasRightRights_122 : decode cX5_hasRightRights 122 = .ok (.ireturn, 1) := by decide +kernel
theorem dX5_hasRightRights_123 : decode cX5_hasRightRights 123 = .ok (.iinc 2 1, 3) := by decide +kernel
theorem dX5_hasRightRights_126 : decode cX5_hasRightRights 126 = .ok (.goto (-124), 3) := by decide +kernel
theorem dX5_hasRightRights_129 : decode cX5_hasRightRights 129 = .ok (.iconst 1, 1) := by decide +kernel
theorem dX5_hasRightRights_130 : decode cX5_hasRightRights 130 = .ok (.ireturn, 1) := by decide +kernel
def sX5_hasRightRights_129 (F : Nat) (h : Hp) : Option (Int32 × Hp) := some ((1 : Int32), h)
def sX5_hasRightRights_88 (F : Nat) (h : Hp) : Option (Int32 × Hp) := some ((0 : Int32), h)
def sX5_hasRightRights_121 (F : Nat) (h : Hp) : Option (Int32 × Hp) := some ((0 : Int32), h)
def sX5_hasRightRights_123 (F : Nat) (k_2 : Hp → Nat → Nat → Int32 → Option (Int32 × Hp)) (h : Hp) (x0 : Nat) (x1 : Nat) (x2 : Int32) : Option (Int32 × Hp) := nm (x2 + (1 : Int32)) fun v_1 => k_2 h x0 x1 v_1
def sX5_hasRightRights_2 (F : Nat) : Nat → Hp → Nat → Nat → Int32 → Option (Int32 × Hp)
  | 0, _, _, _, _ => none
  | f + 1, h, x0, x1, x2 => cl (hR h x0 0) fun r_1 => br ((hI h r_1 2) ≤ x2) (sX5_hasRightRights_129 F h ) (br ((lg_cmp (hJ h x1 8) (0 : Int64)) = 0) (sX5_hasRightRights_129 F h ) (br ((lg_cmp ((((hJ h x1 8).toUInt64 >>> (x2.toInt64.toUInt64 &&& Int64.toUInt64 63)).toInt64) &&& (1 : Int64)) (0 : Int64)) = 0) (sX5_hasRightRights_123 F (sX5_hasRightRights_2 F f) h x0 x1 x2) (cl (hR h x1 0) fun r_5 => gd (inB x2 (hN h r_5)) <| nm (hI h r_5 x2.toNatClampNeg) fun v_7 => cl (hR h x0 0) fun r_8 => br ((hI h r_8 6) = (-1 : Int32)) (sX5_hasRightRights_88 F h ) (br (v_7 = (-1 : Int32)) (sX5_hasRightRights_88 F h ) (cl (hR h x0 0) fun r_11 => br ((v_7 >>> ((1 : Int32) &&& 31)) = (hI h r_11 6)) (cl (hR h x0 0) fun r_13 => cl (sX1_isFirst h r_13 x2 (v_7 &&& (1 : Int32))) fun o_14 => br (o_14.1 = 0) (sX5_hasRightRights_88 F o_14.2 ) (cl (hR o_14.2 x1 2) fun r_16 => gd (inB (v_7 &&& (1 : Int32)) (hN o_14.2 r_16)) <| nm (hI o_14.2 r_16 (v_7 &&& (1 : Int32)).toNatClampNeg) fun v_18 => br (v_18 = (-1 : Int32)) (sX5_hasRightRights_121 F o_14.2 ) (cl (hR o_14.2 x0 0) fun r_20 => cl (sX1_isFirst o_14.2 r_20 v_18 (v_7 &&& (1 : Int32))) fun o_21 => br (o_21.1 = 0) (sX5_hasRightRights_121 F o_21.2 ) (sX5_hasRightRights_123 F (sX5_hasRightRights_2 F f) o_21.2 x0 x1 x2)))) (sX5_hasRightRights_88 F h ))))))
def sX5_hasRightRights (F : Nat) (h : Hp) (x0 : Nat) (x1 : Nat) : Option (Int32 × Hp) := sX5_hasRightRights_2 F F h x0 x1 (0 : Int32)
set_option maxRecDepth 20000 in
theorem bX5_hasRightRights_129 {p : Program} {l : Launch} {e : Env} {s : State} {m : MethodId} {args : Array Value} {below : List Frame} {meth : Method} {c : Code} {X : Ec} {h0 : Hp} {o : Int32 × Hp} {F : Nat} (C : Cx X p s m args meth c RX5 cX5_hasRightRights 5 (some .boolean) "hasRightRights") {h : Hp} {H : Heap} {locs : List Loc} (hkm : Km h0 h) (hW : Wx X h H) (hZ : va_S (aA (eB X)) s.heap H locs) (ls : Array Slot) (hl : lv_has ls 5 []) (hE : sX5_hasRightRights_129 F h  = some o) : W p l e (rm 2 44) s m args below meth c H locs 0 0 (MQ below (QI X h0 o.1 o.2) args s 0 0 (aA (eB X))) (F0 m 129 ls []) := by
  refine lv_iconst (v := (1 : Int32)) C.1 C.2.1 dX5_hasRightRights_129 (by decide) ?_
  exact x_iret C rfl (by decide) hW hZ hkm hE dX5_hasRightRights_130
set_option maxRecDepth 20000 in
theorem bX5_hasRightRights_88 {p : Program} {l : Launch} {e : Env} {s : State} {m : MethodId} {args : Array Value} {below : List Frame} {meth : Method} {c : Code} {X : Ec} {h0 : Hp} {o : Int32 × Hp} {F : Nat} (C : Cx X p s m args meth c RX5 cX5_hasRightRights 5 (some .boolean) "hasRightRights") {h : Hp} {H : Heap} {locs : List Loc} (hkm : Km h0 h) (hW : Wx X h H) (hZ : va_S (aA (eB X)) s.heap H locs) (ls : Array Slot) (hl : lv_has ls 5 []) (hE : sX5_hasRightRights_88 F h  = some o) : W p l e (rm 2 44) s m args below meth c H locs 0 0 (MQ below (QI X h0 o.1 o.2) args s 0 0 (aA (eB X))) (F0 m 88 ls []) := by
  refine lv_iconst (v := (0 : Int32)) C.1 C.2.1 dX5_hasRightRights_88 (by decide) ?_
  exact x_iret C rfl (by decide) hW hZ hkm hE dX5_hasRightRights_89
set_option maxRecDepth 20000 in
theorem bX5_hasRightRights_121 {p : Program} {l : Launch} {e : Env} {s : State} {m : MethodId} {args : Array Value} {below : List Frame} {meth : Method} {c : Code} {X : Ec} {h0 : Hp} {o : Int32 × Hp} {F : Nat} (C : Cx X p s m args meth c RX5 cX5_hasRightRights 5 (some .boolean) "hasRightRights") {h : Hp} {H : Heap} {locs : List Loc} (hkm : Km h0 h) (hW : Wx X h H) (hZ : va_S (aA (eB X)) s.heap H locs) (ls : Array Slot) (hl : lv_has ls 5 []) (hE : sX5_hasRightRights_121 F h  = some o) : W p l e (rm 2 44) s m args below meth c H locs 0 0 (MQ below (QI X h0 o.1 o.2) args s 0 0 (aA (eB X))) (F0 m 121 ls []) := by
  refine lv_iconst (v := (0 : Int32)) C.1 C.2.1 dX5_hasRightRights_121 (by decide) ?_
  exact x_iret C rfl (by decide) hW hZ hkm hE dX5_hasRightRights_122
set_option maxRecDepth 20000 in
theorem bX5_hasRightRights_123 {p : Program} {l : Launch} {e : Env} {s : State} {m : MethodId} {args : Array Value} {below : List Frame} {meth : Method} {c : Code} {X : Ec} {h0 : Hp} {o : Int32 × Hp} {k_2 : Hp → Nat → Nat → Int32 → Option (Int32 × Hp)} {F : Nat} (C : Cx X p s m args meth c RX5 cX5_hasRightRights 5 (some .boolean) "hasRightRights") (hk_2 : ∀ (h : Hp) (x0 : Nat) (x1 : Nat) (x2 : Int32) (H : Heap) (locs : List Loc), hK h x0 = 5 → hK h x1 = 3 → Km h0 h → Wx X h H → va_S (aA (eB X)) s.heap H locs → ∀ (ls : Array Slot), lv_has ls 5 [(0, .ref x0), (1, .ref x1), (2, .int x2)] → k_2 h x0 x1 x2 = some o → W p l e (rm 2 44) s m args below meth c H locs 0 0 (MQ below (QI X h0 o.1 o.2) args s 0 0 (aA (eB X))) (F0 m 2 ls [])) {h : Hp} {x0 : Nat} {x1 : Nat} {x2 : Int32} {H : Heap} {locs : List Loc} (k_x0 : hK h x0 = 5) (k_x1 : hK h x1 = 3) (hkm : Km h0 h) (hW : Wx X h H) (hZ : va_S (aA (eB X)) s.heap H locs) (ls : Array Slot) (hl : lv_has ls 5 [(0, .ref x0), (1, .ref x1), (2, .int x2)]) (hE : sX5_hasRightRights_123 F k_2 h x0 x1 x2 = some o) : W p l e (rm 2 44) s m args below meth c H locs 0 0 (MQ below (QI X h0 o.1 o.2) args s 0 0 (aA (eB X))) (F0 m 123 ls []) := by
  obtain ⟨v_1, ev_1, hE⟩ := nm_e2 hE
  refine lv_iinc (v := v_1) (lv' := [(2, .int v_1), (0, .ref x0), (1, .ref x1)]) C.1 C.2.1 dX5_hasRightRights_123 hl (k := 2) rfl (by rw [ev_1]; rfl) (by decide) rfl (fun ls hl => ?_)
  refine lv_goto (tgt := 2) C.1 C.2.1 dX5_hasRightRights_126 (by decide) ?_
  exact hk_2 _ _ _ _ _ _ k_x0 k_x1 hkm hW hZ _ (lv_sub hl [1, 2, 0] rfl) hE
set_option maxRecDepth 20000 in
theorem bX5_hasRightRights_2 {p : Program} {l : Launch} {e : Env} {s : State} {m : MethodId} {args : Array Value} {below : List Frame} {meth : Method} {c : Code} {X : Ec} {h0 : Hp} {o : Int32 × Hp} {F : Nat} (C : Cx X p s m args meth c RX5 cX5_hasRightRights 5 (some .boolean) "hasRightRights") : ∀ (f : Nat) {h : Hp} {x0 : Nat} {x1 : Nat} {x2 : Int32} {H : Heap} {locs : List Loc} (k_x0 : hK h x0 = 5) (k_x1 : hK h x1 = 3), Km h0 h → Wx X h H → va_S (aA (eB X)) s.heap H locs → ∀ (ls : Array Slot), lv_has ls 5 [(0, .ref x0), (1, .ref x1), (2, .int x2)] → sX5_hasRightRights_2 F f h x0 x1 x2 = some o → W p l e (rm 2 44) s m args below meth c H locs 0 0 (MQ below (QI X h0 o.1 o.2) args s 0 0 (aA (eB X))) (F0 m 2 ls []) := by
  intro f
  induction f with
  | zero =>
    intro h x0 x1 x2 H locs k_x0 k_x1 hkm hW hZ ls hl hE
    rw [sX5_hasRightRights_2] at hE
    cases hE
  | succ f ih =>
    intro h x0 x1 x2 H locs k_x0 k_x1 hkm hW hZ ls hl hE
    rw [sX5_hasRightRights_2] at hE
    have hk_2 : ∀ (h : Hp) (x0 : Nat) (x1 : Nat) (x2 : Int32) (H : Heap) (locs : List Loc), hK h x0 = 5 → hK h x1 = 3 → Km h0 h → Wx X h H → va_S (aA (eB X)) s.heap H locs → ∀ (ls : Array Slot), lv_has ls 5 [(0, .ref x0), (1, .ref x1), (2, .int x2)] → sX5_hasRightRights_2 F f h x0 x1 x2 = some o → W p l e (rm 2 44) s m args below meth c H locs 0 0 (MQ below (QI X h0 o.1 o.2) args s 0 0 (aA (eB X))) (F0 m 2 ls []) := fun h x0 x1 x2 H locs k_x0 k_x1 a b c ls hl hE => ih k_x0 k_x1 a b c ls hl hE
    refine lv_iload_n C.1 C.2.1 dX5_hasRightRights_2 rfl (lv_at hl 2 rfl) ?_
    refine lv_aload_n C.1 C.2.1 dX5_hasRightRights_3 rfl (lv_at hl 0 rfl) ?_
    obtain ⟨r_1, er_1, hE⟩ := cl_e hE
    refine gf_X5_22 C hW k_x0 er_1 dX5_hasRightRights_4 (fun k_r_1 => ?_)
    refine gf_X5_110 C hW k_r_1 dX5_hasRightRights_7 ?_
    refine lv_icmp_ge (tgt := 129) C.1 C.2.1 dX5_hasRightRights_10 (by decide) (fun c_2 => ?_) (fun c_2 => ?_)
    · have hE := br_p hE c_2
      exact bX5_hasRightRights_129 C hkm hW hZ _ (lv_sub hl [] rfl) hE
    · have hE := br_n hE c_2
      refine lv_aload_n C.1 C.2.1 dX5_hasRightRights_13 rfl (lv_at hl 1 rfl) ?_
      refine gf_X5_93 C hW k_x1 dX5_hasRightRights_14 ?_
      refine lv_lconst (v := (0 : Int64)) C.1 C.2.1 dX5_hasRightRights_17 (by decide) ?_
      refine W.lcmp C.1 C.2.1 dX5_hasRightRights_18 ?_
      refine lv_if_eq (tgt := 129) C.1 C.2.1 dX5_hasRightRights_19 (by decide) (fun c_3 => ?_) (fun c_3 => ?_)
      · have hE := br_p hE c_3
        exact bX5_hasRightRights_129 C hkm hW hZ _ (lv_sub hl [] rfl) hE
      · have hE := br_n hE c_3
        refine lv_aload_n C.1 C.2.1 dX5_hasRightRights_22 rfl (lv_at hl 1 rfl) ?_
        refine gf_X5_93 C hW k_x1 dX5_hasRightRights_23 ?_
        refine lv_iload_n C.1 C.2.1 dX5_hasRightRights_26 rfl (lv_at hl 2 rfl) ?_
        refine lv_lushr C.1 C.2.1 dX5_hasRightRights_27 rfl ?_
        refine lv_lconst (v := (1 : Int64)) C.1 C.2.1 dX5_hasRightRights_28 (by decide) ?_
        refine lv_land C.1 C.2.1 dX5_hasRightRights_29 ?_
        refine lv_lconst (v := (0 : Int64)) C.1 C.2.1 dX5_hasRightRights_30 (by decide) ?_
        refine W.lcmp C.1 C.2.1 dX5_hasRightRights_31 ?_
        refine lv_if_ne (tgt := 38) C.1 C.2.1 dX5_hasRightRights_32 (by decide) (fun c_4 => ?_) (fun c_4 => ?_)
        · have hE := br_n hE c_4
          refine lv_aload_n C.1 C.2.1 dX5_hasRightRights_38 rfl (lv_at hl 1 rfl) ?_
          obtain ⟨r_5, er_5, hE⟩ := cl_e hE
          refine gf_X5_42 C hW k_x1 er_5 dX5_hasRightRights_39 (fun k_r_5 => ?_)
          refine lv_iload_n C.1 C.2.1 dX5_hasRightRights_42 rfl (lv_at hl 2 rfl) ?_
          obtain ⟨g_6, hE⟩ := gd_e hE
          refine y_bald C hW k_r_5 g_6 dX5_hasRightRights_43 ?_
          obtain ⟨v_7, ev_7, hE⟩ := nm_e2 hE
          refine x_nmI ev_7 ?_
          refine lv_istore_n (lv' := [(3, .int v_7), (0, .ref x0), (1, .ref x1), (2, .int x2)]) C.1 C.2.1 dX5_hasRightRights_44 rfl hl (by decide) rfl (fun ls hl => ?_)
          refine lv_aload_n C.1 C.2.1 dX5_hasRightRights_45 rfl (lv_at hl 1 rfl) ?_
          obtain ⟨r_8, er_8, hE⟩ := cl_e hE
          refine gf_X5_22 C hW k_x0 er_8 dX5_hasRightRights_46 (fun k_r_8 => ?_)
          refine gf_X5_248 C hW k_r_8 dX5_hasRightRights_49 ?_
          refine lv_iconst (v := (-1 : Int32)) C.1 C.2.1 dX5_hasRightRights_52 (by decide) ?_
          refine lv_icmp_eq (tgt := 88) C.1 C.2.1 dX5_hasRightRights_53 (by decide) (fun c_9 => ?_) (fun c_9 => ?_)
          · have hE := br_p hE c_9
            exact bX5_hasRightRights_88 C hkm hW hZ _ (lv_sub hl [] rfl) hE
          · have hE := br_n hE c_9
            refine lv_iload_n C.1 C.2.1 dX5_hasRightRights_56 rfl (lv_at hl 0 rfl) ?_
            refine lv_iconst (v := (-1 : Int32)) C.1 C.2.1 dX5_hasRightRights_57 (by decide) ?_
            refine lv_icmp_eq (tgt := 88) C.1 C.2.1 dX5_hasRightRights_58 (by decide) (fun c_10 => ?_) (fun c_10 => ?_)
            · have hE := br_p hE c_10
              exact bX5_hasRightRights_88 C hkm hW hZ _ (lv_sub hl [] rfl) hE
            · have hE := br_n hE c_10
              refine lv_iload_n C.1 C.2.1 dX5_hasRightRights_61 rfl (lv_at hl 0 rfl) ?_
              refine lv_iconst (v := (1 : Int32)) C.1 C.2.1 dX5_hasRightRights_62 (by decide) ?_
              refine lv_ishr C.1 C.2.1 dX5_hasRightRights_63 ?_
              refine lv_aload_n C.1 C.2.1 dX5_hasRightRights_64 rfl (lv_at hl 1 rfl) ?_
              obtain ⟨r_11, er_11, hE⟩ := cl_e hE
              refine gf_X5_22 C hW k_x0 er_11 dX5_hasRightRights_65 (fun k_r_11 => ?_)
              refine gf_X5_248 C hW k_r_11 dX5_hasRightRights_68 ?_
              refine lv_icmp_ne (tgt := 88) C.1 C.2.1 dX5_hasRightRights_71 (by decide) (fun c_12 => ?_) (fun c_12 => ?_)
              · have hE := br_n hE c_12
                exact bX5_hasRightRights_88 C hkm hW hZ _ (lv_sub hl [] rfl) hE
              · have hE := br_p hE c_12
                refine lv_aload_n C.1 C.2.1 dX5_hasRightRights_74 rfl (lv_at hl 1 rfl) ?_
                obtain ⟨r_13, er_13, hE⟩ := cl_e hE
                refine gf_X5_22 C hW k_x0 er_13 dX5_hasRightRights_75 (fun k_r_13 => ?_)
                refine lv_iload_n C.1 C.2.1 dX5_hasRightRights_78 rfl (lv_at hl 3 rfl) ?_
                refine lv_iload_n C.1 C.2.1 dX5_hasRightRights_79 rfl (lv_at hl 0 rfl) ?_
                refine lv_iconst (v := (1 : Int32)) C.1 C.2.1 dX5_hasRightRights_80 (by decide) ?_
                refine lv_iand C.1 C.2.1 dX5_hasRightRights_81 ?_
                obtain ⟨o_14, eo_14, hE⟩ := cl_e hE
                refine x_kI (o := o_14) (z_runV (As := [.int x2, .int (v_7 &&& (1 : Int32))]) (rest := []) C (ct_X1_isFirst l X k_r_13 eo_14) cw_X5_332 hW hZ k_r_13 (by decide) rfl rfl rfl hl.1 (Nat.le_of_ble_eq_true rfl) rfl dX5_hasRightRights_82 ⟨Nat.le_of_ble_eq_true rfl, Nat.le_of_ble_eq_true rfl⟩ ⟨Nat.le_refl _, Nat.le_refl _⟩) hZ (fun _ _ hW km hZ => ?_)
                replace hkm := hkm.tr km
                replace k_x0 := km.at k_x0 (by decide)
                replace k_x1 := km.at k_x1 (by decide)
                refine lv_if_ne (tgt := 90) C.1 C.2.1 dX5_hasRightRights_85 (by decide) (fun c_15 => ?_) (fun c_15 => ?_)
                · have hE := br_n hE c_15
                  refine lv_aload_n C.1 C.2.1 dX5_hasRightRights_90 rfl (lv_at hl 2 rfl) ?_
                  obtain ⟨r_16, er_16, hE⟩ := cl_e hE
                  refine gf_X5_60 C hW k_x1 er_16 dX5_hasRightRights_91 (fun k_r_16 => ?_)
                  refine lv_iload_n C.1 C.2.1 dX5_hasRightRights_94 rfl (lv_at hl 0 rfl) ?_
                  refine lv_iconst (v := (1 : Int32)) C.1 C.2.1 dX5_hasRightRights_95 (by decide) ?_
                  refine lv_iand C.1 C.2.1 dX5_hasRightRights_96 ?_
                  obtain ⟨g_17, hE⟩ := gd_e hE
                  refine y_iald C hW k_r_16 g_17 dX5_hasRightRights_97 ?_
                  obtain ⟨v_18, ev_18, hE⟩ := nm_e2 hE
                  refine x_nmI ev_18 ?_
                  refine lv_istore (lv' := [(4, .int v_18), (3, .int v_7), (0, .ref x0), (1, .ref x1), (2, .int x2)]) C.1 C.2.1 dX5_hasRightRights_98 hl (by decide) rfl (fun ls hl => ?_)
                  refine lv_iload C.1 C.2.1 dX5_hasRightRights_100 (lv_at hl 0 rfl) ?_
                  refine lv_iconst (v := (-1 : Int32)) C.1 C.2.1 dX5_hasRightRights_102 (by decide) ?_
                  refine lv_icmp_eq (tgt := 121) C.1 C.2.1 dX5_hasRightRights_103 (by decide) (fun c_19 => ?_) (fun c_19 => ?_)
                  · have hE := br_p hE c_19
                    exact bX5_hasRightRights_121 C hkm hW hZ _ (lv_sub hl [] rfl) hE
                  · have hE := br_n hE c_19
                    refine lv_aload_n C.1 C.2.1 dX5_hasRightRights_106 rfl (lv_at hl 2 rfl) ?_
                    obtain ⟨r_20, er_20, hE⟩ := cl_e hE
                    refine gf_X5_22 C hW k_x0 er_20 dX5_hasRightRights_107 (fun k_r_20 => ?_)
                    refine lv_iload C.1 C.2.1 dX5_hasRightRights_110 (lv_at hl 0 rfl) ?_
                    refine lv_iload_n C.1 C.2.1 dX5_hasRightRights_112 rfl (lv_at hl 1 rfl) ?_
                    refine lv_iconst (v := (1 : Int32)) C.1 C.2.1 dX5_hasRightRights_113 (by decide) ?_
                    refine lv_iand C.1 C.2.1 dX5_hasRightRights_114 ?_
                    obtain ⟨o_21, eo_21, hE⟩ := cl_e hE
                    refine x_kI (o := o_21) (z_runV (As := [.int v_18, .int (v_7 &&& (1 : Int32))]) (rest := []) C (ct_X1_isFirst l X k_r_20 eo_21) cw_X5_332 hW hZ k_r_20 (by decide) rfl rfl rfl hl.1 (Nat.le_of_ble_eq_true rfl) rfl dX5_hasRightRights_115 ⟨Nat.le_of_ble_eq_true rfl, Nat.le_of_ble_eq_true rfl⟩ ⟨Nat.le_refl _, Nat.le_refl _⟩) hZ (fun _ _ hW km hZ => ?_)
                    replace hkm := hkm.tr km
                    replace k_x0 := km.at k_x0 (by decide)
                    replace k_x1 := km.at k_x1 (by decide)
                    refine lv_if_ne (tgt := 123) C.1 C.2.1 dX5_hasRightRights_118 (by decide) (fun c_22 => ?_) (fun c_22 => ?_)
                    · have hE := br_n hE c_22
                      exact bX5_hasRightRights_123 C hk_2 k_x0 k_x1 hkm hW hZ _ (lv_sub hl [2, 3, 4] rfl) hE
                    · have hE := br_p hE c_22
                      exact bX5_hasRightRights_121 C hkm hW hZ _ (lv_sub hl [] rfl) hE
                · have hE := br_p hE c_15
                  exact bX5_hasRightRights_88 C hkm hW hZ _ (lv_sub hl [] rfl) hE
        · have hE := br_p hE c_4
          refine lv_goto (tgt := 123) C.1 C.2.1 dX5_hasRightRights_35 (by decide) ?_
          exact bX5_hasRightRights_123 C hk_2 k_x0 k_x1 hkm hW hZ _ (lv_sub hl [0, 1, 2] rfl) hE
set_option maxRecDepth 20000 in
theorem ct_X5_hasRightRights (l : Launch) (X : Ec) (F : Nat) {h : Hp} {x0 : Nat} {x1 : Nat} {o : Int32 × Hp} (k_x0 : hK h x0 = 5) (k_x1 : hK h x1 = 3) (hE : sX5_hasRightRights F h x0 x1 = some o) : MetI l yX5_hasRightRights cX5_hasRightRights 5 (some .boolean) 2 44 X [.ref x0, .ref x1] h o := by
  refine x_met (by decide) (Nat.le_of_ble_eq_true rfl) ?_
  intro p e s m below meth c ls C hl hW hZ
  have hl : lv_has ls 5 [(0, .ref x0), (1, .ref x1)] := hl
  have hkm : Km h h := Km.rf h
  refine lv_iconst (v := (0 : Int32)) C.1 C.2.1 dX5_hasRightRights_0 (by decide) ?_
  refine lv_istore_n (lv' := [(2, .int (0 : Int32)), (0, .ref x0), (1, .ref x1)]) C.1 C.2.1 dX5_hasRightRights_1 rfl hl (by decide) rfl (fun ls hl => ?_)
  exact bX5_hasRightRights_2 C F k_x0 k_x1 hkm hW hZ _ (lv_sub hl [1, 2, 0] rfl) hE
theorem m_1077 : Cond.methodLink RX5 173 yX3_passSquare ∈ W0 := w0_in (List.mem_append_right _ (List.mem_of_getElem? (i := 1077) (by decide +kernel))) rfl
theorem cw_X5_173 : cwd RX5 173 yX3_passSquare cX3_passSquare 2 (some .int) false 1 := ⟨m_1080, m_1077, m_8, ⟨m_1078, m_1079⟩, by decide, by decide, by decide +kernel⟩
theorem dX5_wentOver_0 : decode cX5_wentOver 0 = .ok (.iload_n 2, 1) := by decide +kernel
theorem dX5_wentOver_1 : decode cX5_wentOver 1 = .ok (.ifCond .le 15, 3) := by decide +kernel
theorem dX5_wentOver_4 : decode cX5_wentOver 4 = .ok (.aload_n 0, 1) := by decide +kernel
theorem dX5_wentOver_5 : decode cX5_wentOver 5 = .ok (.iconst 0, 1) := by decide +kernel
theorem dX5_wentOver_6 : decode cX5_wentOver 6 = .ok (.invokevirtual 173, 3) := by decide +kernel
theorem dX5_wentOver_9 : decode cX5_wentOver 9 = .ok (.iload_n 1, 1) := by decide +kernel
theorem dX5_wentOver_10 : decode cX5_wentOver 10 = .ok (.isub, 1) := by decide +kernel
theorem dX5_wentOver_11 : decode cX5_wentOver 11 = .ok (.iload_n 2, 1) := by decide +kernel
theorem dX5_wentOver_12 : decode cX5_wentOver 12 = .ok (.idiv, 1) := by decide +kernel
theorem dX5_wentOver_13 : decode cX5_wentOver 13 = .ok (.goto 4, 3) := by decide +kernel
theorem dX5_wentOver_16 : decode cX5_wentOver 16 = .ok (.iconst 0, 1) := by decide +kernel
theorem dX5_wentOver_17 : decode cX5_wentOver 17 = .ok (.istore_n 3, 1) := by decide +kernel
theorem dX5_wentOver_18 : decode cX5_wentOver 18 = .ok (.iconst 1, 1) := by decide +kernel
theorem dX5_wentOver_19 : decode cX5_wentOver 19 = .ok (.istore 4, 2) := by decide +kernel
theorem dX5_wentOver_21 : decode cX5_wentOver 21 = .ok (.iload 4, 2) := by decide +kernel
theorem dX5_wentOver_23 : decode cX5_wentOver 23 = .ok (.iload_n 2, 1) := by decide +kernel
theorem dX5_wentOver_24 : decode cX5_wentOver 24 = .ok (.if_icmp .ge 26, 3) := by decide +kernel
theorem dX5_wentOver_27 : decode cX5_wentOver 27 = .ok (.aload_n 0, 1) := by decide +kernel
theorem dX5_wentOver_28 : decode cX5_wentOver 28 = .ok (.iload 4, 2) := by decide +kernel
theorem dX5_wentOver_30 : decode cX5_wentOver 30 = .ok (.invokevirtual 173, 3) := by decide +kernel
theorem dX5_wentOver_33 : decode cX5_wentOver 33 = .ok (.iload_n 1, 1) := by decide +kernel
theorem dX5_wentOver_34 : decode cX5_wentOver 34 = .ok (.iload 4, 2) := by decide +kernel
theorem dX5_wentOver_36 : decode cX5_wentOver 36 = .ok (.iload_n 3, 1) := by decide +kernel
theorem dX5_wentOver_37 : decode cX5_wentOver 37 = .ok (.imul, 1) := by decide +kernel
theorem dX5_wentOver_38 : decode cX5_wentOver 38 = .ok (.iadd, 1) := by decide +kernel
theorem dX5_wentOver_39 : decode cX5_wentOver 39 = .ok (.if_icmp .eq 5, 3) := by decide +kernel
theorem dX5_wentOver_42 : decode cX5_wentOver 42 = .ok (.iconst 0, 1) := by decide +kernel
theorem dX5_wentOver_43 : decode cX5_wentOver 43 = .ok (.ireturn, 1) := by decide +kernel
theorem dX5_wentOver_44 : decode cX5_wentOver 44 = .ok (.iinc 4 1, 3) := by decide +kernel
theorem dX5_wentOver_47 : decode cX5_wentOver 47 = .ok (.goto (-26), 3) := by decide +kernel
theorem dX5_wentOver_50 : decode cX5_wentOver 50 = .ok (.iconst 1, 1) := by decide +kernel
theorem dX5_wentOver_51 : decode cX5_wentOver 51 = .ok (.ireturn, 1) := by decide +kernel
def sX5_wentOver_21 (F : Nat) : Nat → Hp → Nat → Int32 → Int32 → Int32 → Int32 → Option (Int32 × Hp)
  | 0, _, _, _, _, _, _ => none
  | f + 1, h, x0, x1, x2, x3, x4 => br (x2 ≤ x4) (some ((1 : Int32), h)) (cl (sX3_passSquare h x0 x4) fun o_2 => br (o_2.1 = (x1 + (x4 * x3))) (nm (x4 + (1 : Int32)) fun v_4 => sX5_wentOver_21 F f o_2.2 x0 x1 x2 x3 v_4) (some ((0 : Int32), o_2.2)))
def sX5_wentOver_17 (F : Nat) (h : Hp) (x0 : Nat) (x1 : Int32) (x2 : Int32) (t0 : Int32) : Option (Int32 × Hp) := sX5_wentOver_21 F F h x0 x1 x2 t0 (1 : Int32)
def sX5_wentOver (F : Nat) (h : Hp) (x0 : Nat) (x1 : Int32) (x2 : Int32) : Option (Int32 × Hp) := br (x2 ≤ 0) (sX5_wentOver_17 F h x0 x1 x2 (0 : Int32)) (cl (sX3_passSquare h x0 (0 : Int32)) fun o_2 => gd (¬ x2 = 0) <| sX5_wentOver_17 F o_2.2 x0 x1 x2 ((o_2.1 - x1) / x2))
set_option maxRecDepth 20000 in
theorem bX5_wentOver_21 {p : Program} {l : Launch} {e : Env} {s : State} {m : MethodId} {args : Array Value} {below : List Frame} {meth : Method} {c : Code} {X : Ec} {h0 : Hp} {o : Int32 × Hp} {F : Nat} (C : Cx X p s m args meth c RX5 cX5_wentOver 5 (some .boolean) "wentOver") : ∀ (f : Nat) {h : Hp} {x0 : Nat} {x1 : Int32} {x2 : Int32} {x3 : Int32} {x4 : Int32} {H : Heap} {locs : List Loc} (k_x0 : hK h x0 = 3), Km h0 h → Wx X h H → va_S (aA (eB X)) s.heap H locs → ∀ (ls : Array Slot), lv_has ls 5 [(0, .ref x0), (1, .int x1), (2, .int x2), (3, .int x3), (4, .int x4)] → sX5_wentOver_21 F f h x0 x1 x2 x3 x4 = some o → W p l e (rm 1 21) s m args below meth c H locs 0 0 (MQ below (QI X h0 o.1 o.2) args s 0 0 (aA (eB X))) (F0 m 21 ls []) := by
  intro f
  induction f with
  | zero =>
    intro h x0 x1 x2 x3 x4 H locs k_x0 hkm hW hZ ls hl hE
    rw [sX5_wentOver_21] at hE
    cases hE
  | succ f ih =>
    intro h x0 x1 x2 x3 x4 H locs k_x0 hkm hW hZ ls hl hE
    rw [sX5_wentOver_21] at hE
    have hk_21 : ∀ (h : Hp) (x0 : Nat) (x1 : Int32) (x2 : Int32) (x3 : Int32) (x4 : Int32) (H : Heap) (locs : List Loc), hK h x0 = 3 → Km h0 h → Wx X h H → va_S (aA (eB X)) s.heap H locs → ∀ (ls : Array Slot), lv_has ls 5 [(0, .ref x0), (1, .int x1), (2, .int x2), (3, .int x3), (4, .int x4)] → sX5_wentOver_21 F f h x0 x1 x2 x3 x4 = some o → W p l e (rm 1 21) s m args below meth c H locs 0 0 (MQ below (QI X h0 o.1 o.2) args s 0 0 (aA (eB X))) (F0 m 21 ls []) := fun h x0 x1 x2 x3 x4 H locs k_x0 a b c ls hl hE => ih k_x0 a b c ls hl hE
    refine lv_iload C.1 C.2.1 dX5_wentOver_21 (lv_at hl 4 rfl) ?_
    refine lv_iload_n C.1 C.2.1 dX5_wentOver_23 rfl (lv_at hl 2 rfl) ?_
    refine lv_icmp_ge (tgt := 50) C.1 C.2.1 dX5_wentOver_24 (by decide) (fun c_1 => ?_) (fun c_1 => ?_)
    · have hE := br_p hE c_1
      refine lv_iconst (v := (1 : Int32)) C.1 C.2.1 dX5_wentOver_50 (by decide) ?_
      exact x_iret C rfl (by decide) hW hZ hkm hE dX5_wentOver_51
    · have hE := br_n hE c_1
      refine lv_aload_n C.1 C.2.1 dX5_wentOver_27 rfl (lv_at hl 0 rfl) ?_
      refine lv_iload C.1 C.2.1 dX5_wentOver_28 (lv_at hl 4 rfl) ?_
      obtain ⟨o_2, eo_2, hE⟩ := cl_e hE
      refine x_kI (o := o_2) (z_runV (As := [.int x4]) (rest := []) C (ct_X3_passSquare l X k_x0 eo_2) cw_X5_173 hW hZ k_x0 (by decide) rfl rfl rfl hl.1 (Nat.le_of_ble_eq_true rfl) rfl dX5_wentOver_30 ⟨Nat.le_of_ble_eq_true rfl, Nat.le_of_ble_eq_true rfl⟩ ⟨Nat.le_refl _, Nat.le_refl _⟩) hZ (fun _ _ hW km hZ => ?_)
      replace hkm := hkm.tr km
      replace k_x0 := km.at k_x0 (by decide)
      refine lv_iload_n C.1 C.2.1 dX5_wentOver_33 rfl (lv_at hl 1 rfl) ?_
      refine lv_iload C.1 C.2.1 dX5_wentOver_34 (lv_at hl 4 rfl) ?_
      refine lv_iload_n C.1 C.2.1 dX5_wentOver_36 rfl (lv_at hl 3 rfl) ?_
      refine lv_imul C.1 C.2.1 dX5_wentOver_37 ?_
      refine lv_iadd C.1 C.2.1 dX5_wentOver_38 ?_
      refine lv_icmp_eq (tgt := 44) C.1 C.2.1 dX5_wentOver_39 (by decide) (fun c_3 => ?_) (fun c_3 => ?_)
      · have hE := br_p hE c_3
        obtain ⟨v_4, ev_4, hE⟩ := nm_e2 hE
        refine lv_iinc (v := v_4) (lv' := [(4, .int v_4), (0, .ref x0), (1, .int x1), (2, .int x2), (3, .int x3)]) C.1 C.2.1 dX5_wentOver_44 hl (k := 4) rfl (by rw [ev_4]; rfl) (by decide) rfl (fun ls hl => ?_)
        refine lv_goto (tgt := 21) C.1 C.2.1 dX5_wentOver_47 (by decide) ?_
        exact hk_21 _ _ _ _ _ _ _ _ k_x0 hkm hW hZ _ (lv_sub hl [1, 2, 3, 4, 0] rfl) hE
      · have hE := br_n hE c_3
        refine lv_iconst (v := (0 : Int32)) C.1 C.2.1 dX5_wentOver_42 (by decide) ?_
        exact x_iret C rfl (by decide) hW hZ hkm hE dX5_wentOver_43
set_option maxRecDepth 20000 in
theorem bX5_wentOver_17 {p : Program} {l : Launch} {e : Env} {s : State} {m : MethodId} {args : Array Value} {below : List Frame} {meth : Method} {c : Code} {X : Ec} {h0 : Hp} {o : Int32 × Hp} {F : Nat} (C : Cx X p s m args meth c RX5 cX5_wentOver 5 (some .boolean) "wentOver") {h : Hp} {x0 : Nat} {x1 : Int32} {x2 : Int32} {t0 : Int32} {H : Heap} {locs : List Loc} (k_x0 : hK h x0 = 3) (hkm : Km h0 h) (hW : Wx X h H) (hZ : va_S (aA (eB X)) s.heap H locs) (ls : Array Slot) (hl : lv_has ls 5 [(0, .ref x0), (1, .int x1), (2, .int x2)]) (hE : sX5_wentOver_17 F h x0 x1 x2 t0 = some o) : W p l e (rm 1 21) s m args below meth c H locs 0 0 (MQ below (QI X h0 o.1 o.2) args s 0 0 (aA (eB X))) (F0 m 17 ls [.int t0]) := by
  refine lv_istore_n (lv' := [(3, .int t0), (0, .ref x0), (1, .int x1), (2, .int x2)]) C.1 C.2.1 dX5_wentOver_17 rfl hl (by decide) rfl (fun ls hl => ?_)
  refine lv_iconst (v := (1 : Int32)) C.1 C.2.1 dX5_wentOver_18 (by decide) ?_
  refine lv_istore (lv' := [(4, .int (1 : Int32)), (3, .int t0), (0, .ref x0), (1, .int x1), (2, .int x2)]) C.1 C.2.1 dX5_wentOver_19 hl (by decide) rfl (fun ls hl => ?_)
  exact bX5_wentOver_21 C F k_x0 hkm hW hZ _ (lv_sub hl [2, 3, 4, 1, 0] rfl) hE
set_option maxRecDepth 20000 in
theorem ct_X5_wentOver (l : Launch) (X : Ec) (F : Nat) {h : Hp} {x0 : Nat} {x1 : Int32} {x2 : Int32} {o : Int32 × Hp} (k_x0 : hK h x0 = 3) (hE : sX5_wentOver F h x0 x1 x2 = some o) : MetI l yX5_wentOver cX5_wentOver 5 (some .boolean) 1 21 X [.ref x0, .int x1, .int x2] h o := by
  refine x_met (by decide) (Nat.le_of_ble_eq_true rfl) ?_
  intro p e s m below meth c ls C hl hW hZ
  have hl : lv_has ls 5 [(0, .ref x0), (1, .int x1), (2, .int x2)] := hl
  have hkm : Km h h := Km.rf h
  refine lv_iload_n C.1 C.2.1 dX5_wentOver_0 rfl (lv_at hl 2 rfl) ?_
  refine lv_if_le (tgt := 16) C.1 C.2.1 dX5_wentOver_1 (by decide) (fun c_1 => ?_) (fun c_1 => ?_)
  · have hE := br_p hE c_1
    refine lv_iconst (v := (0 : Int32)) C.1 C.2.1 dX5_wentOver_16 (by decide) ?_
    exact bX5_wentOver_17 C k_x0 hkm hW hZ _ (lv_sub hl [0, 1, 2] rfl) hE
  · have hE := br_n hE c_1
    refine lv_aload_n C.1 C.2.1 dX5_wentOver_4 rfl (lv_at hl 0 rfl) ?_
    refine lv_iconst (v := (0 : Int32)) C.1 C.2.1 dX5_wentOver_5 (by decide) ?_
    obtain ⟨o_2, eo_2, hE⟩ := cl_e hE
    refine x_kI (o := o_2) (z_runV (As := [.int (0 : Int32)]) (rest := []) C (ct_X3_passSquare l X k_x0 eo_2) cw_X5_173 hW hZ k_x0 (by decide) rfl rfl rfl hl.1 (Nat.le_of_ble_eq_true rfl) rfl dX5_wentOver_6 ⟨Nat.le_of_ble_eq_true rfl, Nat.le_of_ble_eq_true rfl⟩ ⟨Nat.le_refl _, Nat.le_refl _⟩) hZ (fun _ _ hW km hZ => ?_)
    replace hkm := hkm.tr km
    replace k_x0 := km.at k_x0 (by decide)
    refine lv_iload_n C.1 C.2.1 dX5_wentOver_9 rfl (lv_at hl 1 rfl) ?_
    refine lv_isub C.1 C.2.1 dX5_wentOver_10 ?_
    refine lv_iload_n C.1 C.2.1 dX5_wentOver_11 rfl (lv_at hl 2 rfl) ?_
    obtain ⟨g_3, hE⟩ := gd_e hE
    refine lv_idiv C.1 C.2.1 dX5_wentOver_12 g_3 ?_
    refine lv_goto (tgt := 17) C.1 C.2.1 dX5_wentOver_13 (by decide) ?_
    exact bX5_wentOver_17 C k_x0 hkm hW hZ _ (lv_sub hl [0, 1, 2] rfl) hE
theorem m_7 : Cond.initialized RX5 ∈ W0 := w0_in (List.mem_append_right _ (List.mem_of_getElem? (i := 7) (by decide +kernel))) rfl
theorem m_225 : Cond.fieldLink RX5 51 (TX10 0).1 (TX10 0).2.1 (TX10 0).2.2.1 ∈ W0 := w0_in (List.mem_append_right _ (List.mem_of_getElem? (i := 225) (by decide +kernel))) rfl
theorem m_227 : Cond.fieldLink RX5 54 (TX10 1).1 (TX10 1).2.1 (TX10 1).2.2.1 ∈ W0 := w0_in (List.mem_append_right _ (List.mem_of_getElem? (i := 227) (by decide +kernel))) rfl
theorem m_301 : Cond.fieldLink RX5 78 (TX3 5).1 (TX3 5).2.1 (TX3 5).2.2.1 ∈ W0 := w0_in (List.mem_append_right _ (List.mem_of_getElem? (i := 301) (by decide +kernel))) rfl
theorem m_318 : Cond.fieldLink RX5 150 (TX3 10).1 (TX3 10).2.1 (TX3 10).2.2.1 ∈ W0 := w0_in (List.mem_append_right _ (List.mem_of_getElem? (i := 318) (by decide +kernel))) rfl
theorem m_1076 : Cond.methodLink RX5 335 yX3_passSize ∈ W0 := w0_in (List.mem_append_right _ (List.mem_of_getElem? (i := 1076) (by decide +kernel))) rfl
theorem m_1081 : Cond.methodLink RX5 138 yX3_occupied ∈ W0 := w0_in (List.mem_append_right _ (List.mem_of_getElem? (i := 1081) (by decide +kernel))) rfl
theorem m_1082 : Cond.instanceMethod yX3_occupied ∈ W0 := w0_in (List.mem_append_right _ (List.mem_of_getElem? (i := 1082) (by decide +kernel))) rfl
theorem m_1083 : Cond.selects RX3 yX3_occupied yX3_occupied ∈ W0 := w0_in (List.mem_append_right _ (List.mem_of_getElem? (i := 1083) (by decide +kernel))) rfl
theorem m_1084 : Cond.code yX3_occupied cX3_occupied 1 (some .long) ∈ W0 := w0_in (List.mem_append_right _ (List.mem_of_getElem? (i := 1084) (by decide +kernel))) rfl
theorem m_1085 : Cond.methodLink RX5 142 yX10_cell ∈ W0 := w0_in (List.mem_append_right _ (List.mem_of_getElem? (i := 1085) (by decide +kernel))) rfl
theorem m_1086 : Cond.methodLink RX5 339 yX5_wentOver ∈ W0 := w0_in (List.mem_append_right _ (List.mem_of_getElem? (i := 1086) (by decide +kernel))) rfl
theorem m_1087 : Cond.static yX5_wentOver ∈ W0 := w0_in (List.mem_append_right _ (List.mem_of_getElem? (i := 1087) (by decide +kernel))) rfl
theorem m_1088 : Cond.code yX5_wentOver cX5_wentOver 5 (some .boolean) ∈ W0 := w0_in (List.mem_append_right _ (List.mem_of_getElem? (i := 1088) (by decide +kernel))) rfl
section
variable {p : Program} {l : Launch} {e : Env} {R : Room} {s : State} {m : MethodId} {args : Array Value} {below : List Frame} {meth : Method} {c : Code} {H : Heap} {locs : List Loc} {cells slots : Nat} {Q : State → Prop}
variable {cc : ByteArray} {pc : Nat} {ls : Array Slot} {rest : List Value} {X : Ec} {h h1 : Hp} {nL : Nat} {rt : Option FieldType} {mn : String}
theorem gf_X5_26 {a r : Nat} (C : Cx X p s m args meth c RX5 cc nL rt mn) (hW : Wx X h H) (ha : hK h a = 5) (hr : hR h a 1 = some r) (hdg : decode cc pc = .ok (.getfield 26, 3)) (kk : hK h r = 10 → W p l e R s m args below meth c H locs cells slots Q (F0 m (pc + 3) ls (.ref r :: rest))) : W p l e R s m args below meth c H locs cells slots Q (F0 m pc ls (.ref a :: rest)) :=
  y_getr C hW ha i_X5 (by decide) rfl (by decide) m_344 rfl rfl hr hdg kk
theorem gf_X5_51 {a r : Nat} (C : Cx X p s m args meth c RX5 cc nL rt mn) (hW : Wx X h H) (ha : hK h a = 10) (hr : hR h a 0 = some r) (hdg : decode cc pc = .ok (.getfield 51, 3)) (kk : hK h r = 17 → W p l e R s m args below meth c H locs cells slots Q (F0 m (pc + 3) ls (.ref r :: rest))) : W p l e R s m args below meth c H locs cells slots Q (F0 m pc ls (.ref a :: rest)) :=
  y_getr C hW ha i_X10 (by decide) rfl (by decide) m_225 rfl rfl hr hdg kk
theorem gf_X5_54 {a r : Nat} (C : Cx X p s m args meth c RX5 cc nL rt mn) (hW : Wx X h H) (ha : hK h a = 10) (hr : hR h a 1 = some r) (hdg : decode cc pc = .ok (.getfield 54, 3)) (kk : hK h r = 17 → W p l e R s m args below meth c H locs cells slots Q (F0 m (pc + 3) ls (.ref r :: rest))) : W p l e R s m args below meth c H locs cells slots Q (F0 m pc ls (.ref a :: rest)) :=
  y_getr C hW ha i_X10 (by decide) rfl (by decide) m_227 rfl rfl hr hdg kk
theorem gf_X5_78 {a : Nat} (C : Cx X p s m args meth c RX5 cc nL rt mn) (hW : Wx X h H) (ha : hK h a = 3) (hdg : decode cc pc = .ok (.getfield 78, 3)) (kk : W p l e R s m args below meth c H locs cells slots Q (F0 m (pc + 3) ls (.int (hI h a 5) :: rest))) : W p l e R s m args below meth c H locs cells slots Q (F0 m pc ls (.ref a :: rest)) :=
  y_geti C hW ha i_X3 (by decide) rfl (by decide) m_301 rfl hdg kk
theorem gf_X5_150 {a : Nat} (C : Cx X p s m args meth c RX5 cc nL rt mn) (hW : Wx X h H) (ha : hK h a = 3) (hdg : decode cc pc = .ok (.getfield 150, 3)) (kk : W p l e R s m args below meth c H locs cells slots Q (F0 m (pc + 3) ls (.long (hJ h a 10) :: rest))) : W p l e R s m args below meth c H locs cells slots Q (F0 m pc ls (.ref a :: rest)) :=
  y_getj C hW ha i_X3 (by decide) rfl (by decide) m_318 rfl hdg kk
end
theorem cw_X5_339 : cwd RX5 339 yX5_wentOver cX5_wentOver 5 (some .boolean) true 3 := ⟨m_1088, m_1086, m_7, m_1087, by decide, by decide, by decide +kernel⟩
theorem cw_X5_142 : cwd RX5 142 yX10_cell cX10_cell 3 (some .int) true 3 := ⟨m_815, m_1085, m_6, m_814, by decide, by decide, by decide +kernel⟩
theorem cw_X5_335 : cwd RX5 335 yX3_passSize cX3_passSize 1 (some .int) false 0 := ⟨m_1012, m_1076, m_8, ⟨m_1010, m_1011⟩, by decide, by decide, by decide +kernel⟩
theorem cw_X5_138 : cwd RX5 138 yX3_occupied cX3_occupied 1 (some .long) false 0 := ⟨m_1084, m_1081, m_8, ⟨m_1082, m_1083⟩, by decide, by decide, by decide +kernel⟩
theorem dX5_hasRightPass_0 : decode cX5_hasRightPass 0 = .ok (.aload_n 1, 1) := by decide +kernel
theorem dX5_hasRightPass_1 : decode cX5_hasRightPass 1 = .ok (.invokevirtual 335, 3) := by decide +kernel
theorem dX5_hasRightPass_4 : decode cX5_hasRightPass 4 = .ok (.istore_n 2, 1) := by decide +kernel
theorem dX5_hasRightPass_5 : decode cX5_hasRightPass 5 = .ok (.aload_n 1, 1) := by decide +kernel
theorem dX5_hasRightPass_6 : decode cX5_hasRightPass 6 = .ok (.iconst 0, 1) := by decide +kernel
theorem dX5_hasRightPass_7 : decode cX5_hasRightPass 7 = .ok (.invokevirtual 173, 3) := by decide +kernel
theorem dX5_hasRightPass_10 : decode cX5_hasRightPass 10 = .ok (.istore_n 3, 1) := by decide +kernel
theorem dX5_hasRightPass_11 : decode cX5_hasRightPass 11 = .ok (.aload_n 1, 1) := by decide +kernel
theorem dX5_hasRightPass_12 : decode cX5_hasRightPass 12 = .ok (.getfield 42, 3) := by decide +kernel
theorem dX5_hasRightPass_15 : decode cX5_hasRightPass 15 = .ok (.iload_n 3, 1) := by decide +kernel
theorem dX5_hasRightPass_16 : decode cX5_hasRightPass 16 = .ok (.baload, 1) := by decide +kernel
theorem dX5_hasRightPass_17 : decode cX5_hasRightPass 17 = .ok (.istore 4, 2) := by decide +kernel
theorem dX5_hasRightPass_19 : decode cX5_hasRightPass 19 = .ok (.iload_n 2, 1) := by decide +kernel
theorem dX5_hasRightPass_20 : decode cX5_hasRightPass 20 = .ok (.iconst 2, 1) := by decide +kernel
theorem dX5_hasRightPass_21 : decode cX5_hasRightPass 21 = .ok (.if_icmp .lt 34, 3) := by decide +kernel
theorem dX5_hasRightPass_24 : decode cX5_hasRightPass 24 = .ok (.iload 4, 2) := by decide +kernel
theorem dX5_hasRightPass_26 : decode cX5_hasRightPass 26 = .ok (.iconst (-1), 1) := by decide +kernel
theorem dX5_hasRightPass_27 : decode cX5_hasRightPass 27 = .ok (.if_icmp .eq 28, 3) := by decide +kernel
theorem dX5_hasRightPass_30 : decode cX5_hasRightPass 30 = .ok (.iload 4, 2) := by decide +kernel
theorem dX5_hasRightPass_32 : decode cX5_hasRightPass 32 = .ok (.iconst 1, 1) := by decide +kernel
theorem dX5_hasRightPass_33 : decode cX5_hasRightPass 33 = .ok (.iand, 1) := by decide +kernel
theorem dX5_hasRightPass_34 : decode cX5_hasRightPass 34 = .ok (.aload_n 1, 1) := by decide +kernel
theorem dX5_hasRightPass_35 : decode cX5_hasRightPass 35 = .ok (.getfield 78, 3) := by decide +kernel
theorem dX5_hasRightPass_38 : decode cX5_hasRightPass 38 = .ok (.if_icmp .eq 17, 3) := by decide +kernel
theorem dX5_hasRightPass_41 : decode cX5_hasRightPass 41 = .ok (.aload_n 1, 1) := by decide +kernel
theorem dX5_hasRightPass_42 : decode cX5_hasRightPass 42 = .ok (.getfield 150, 3) := by decide +kernel
theorem dX5_hasRightPass_45 : decode cX5_hasRightPass 45 = .ok (.aload_n 1, 1) := by decide +kernel
theorem dX5_hasRightPass_46 : decode cX5_hasRightPass 46 = .ok (.invokevirtual 138, 3) := by decide +kernel
theorem dX5_hasRightPass_49 : decode cX5_hasRightPass 49 = .ok (.land, 1) := by decide +kernel
theorem dX5_hasRightPass_50 : decode cX5_hasRightPass 50 = .ok (.lconst 0, 1) := by decide +kernel
theorem dX5_hasRightPass_51 : decode cX5_hasRightPass 51 = .ok (.lcmp, 1) := by decide +kernel
theorem dX5_hasRightPass_52 : decode cX5_hasRightPass 52 = .ok (.ifCond .eq 5, 3) := by decide +kernel
theorem dX5_hasRightPass_55 : decode cX5_hasRightPass 55 = .ok (.iconst 0, 1) := by decide +kernel
theorem dX5_hasRightPass_56 : decode cX5_hasRightPass 56 = .ok (.ireturn, 1) := by decide +kernel
theorem dX5_hasRightPass_57 : decode cX5_hasRightPass 57 = .ok (.iconst 0, 1) := by decide +kernel
theorem dX5_hasRightPass_58 : decode cX5_hasRightPass 58 = .ok (.istore 5, 2) := by decide +kernel
theorem dX5_hasRightPass_60 : decode cX5_hasRightPass 60 = .ok (.iload 5, 2) := by decide +kernel
theorem dX5_hasRightPass_62 : decode cX5_hasRightPass 62 = .ok (.aload_n 0, 1) := by decide +kernel
theorem dX5_hasRightPass_63 : decode cX5_hasRightPass 63 = .ok (.getfield 22, 3) := by decide +kernel
theorem dX5_hasRightPass_66 : decode cX5_hasRightPass 66 = .ok (.getfield 110, 3) := by decide +kernel
theorem dX5_hasRightPass_69 : decode cX5_hasRightPass 69 = .ok (.if_icmp .ge 116, 3) := by decide +kernel
theorem dX5_hasRightPass_72 : decode cX5_hasRightPass 72 = .ok (.aload_n 1, 1) := by decide +kernel
theorem dX5_hasRightPass_73 : decode cX5_hasRightPass 73 = .ok (.getfield 42, 3) := by decide +kernel
theorem dX5_hasRightPass_76 : decode cX5_hasRightPass 76 = .ok (.iload 5, 2) := by decide +kernel
theorem dX5_hasRightPass_78 : decode cX5_hasRightPass 78 = .ok (.baload, 1) := by decide +kernel
theorem dX5_hasRightPass_79 : decode cX5_hasRightPass 79 = .ok (.iconst (-1), 1) := by decide +kernel
theorem dX5_hasRightPass_80 : decode cX5_hasRightPass 80 = .ok (.if_icmp .eq 6, 3) := by decide +kernel
theorem dX5_hasRightPass_83 : decode cX5_hasRightPass 83 = .ok (.goto 96, 3) := by decide +kernel
theorem dX5_hasRightPass_86 : decode cX5_hasRightPass 86 = .ok (.iload 4, 2) := by decide +kernel
theorem dX5_hasRightPass_88 : decode cX5_hasRightPass 88 = .ok (.iload 5, 2) := by decide +kernel
theorem dX5_hasRightPass_90 : decode cX5_hasRightPass 90 = .ok (.iload_n 3, 1) := by decide +kernel
theorem dX5_hasRightPass_91 : decode cX5_hasRightPass 91 = .ok (.invokestatic 142, 3) := by decide +kernel
theorem dX5_hasRightPass_94 : decode cX5_hasRightPass 94 = .ok (.istore 6, 2) := by decide +kernel
theorem dX5_hasRightPass_96 : decode cX5_hasRightPass 96 = .ok (.aload_n 0, 1) := by decide +kernel
theorem dX5_hasRightPass_97 : decode cX5_hasRightPass 97 = .ok (.getfield 26, 3) := by decide +kernel
theorem dX5_hasRightPass_100 : decode cX5_hasRightPass 100 = .ok (.getfield 51, 3) := by decide +kernel
theorem dX5_hasRightPass_103 : decode cX5_hasRightPass 103 = .ok (.iload 6, 2) := by decide +kernel
theorem dX5_hasRightPass_105 : decode cX5_hasRightPass 105 = .ok (.iaload, 1) := by decide +kernel
theorem dX5_hasRightPass_106 : decode cX5_hasRightPass 106 = .ok (.istore 7, 2) := by decide +kernel
theorem dX5_hasRightPass_108 : decode cX5_hasRightPass 108 = .ok (.iload 7, 2) := by decide +kernel
theorem dX5_hasRightPass_110 : decode cX5_hasRightPass 110 = .ok (.aload_n 0, 1) := by decide +kernel
theorem dX5_hasRightPass_111 : decode cX5_hasRightPass 111 = .ok (.getfield 26, 3) := by decide +kernel
theorem dX5_hasRightPass_114 : decode cX5_hasRightPass 114 = .ok (.getfield 51, 3) := by decide +kernel
theorem dX5_hasRightPass_117 : decode cX5_hasRightPass 117 = .ok (.iload 6, 2) := by decide +kernel
theorem dX5_hasRightPass_119 : decode cX5_hasRightPass 119 = .ok (.iconst 1, 1) := by decide +kernel
theorem dX5_hasRightPass_120 : decode cX5_hasRightPass 120 = .ok (.iadd, 1) := by decide +kernel
theorem dX5_hasRightPass_121 : decode cX5_hasRightPass 121 = .ok (.iaload, 1) := by decide +kernel
theorem dX5_hasRightPass_122 : decode cX5_hasRightPass 122 = .ok (.if_icmp .ge 57, 3) := by decide +kernel
theorem dX5_hasRightPass_125 : decode cX5_hasRightPass 125 = .ok (.aload_n 0, 1) := by decide +kernel
theorem dX5_hasRightPass_126 : decode cX5_hasRightPass 126 = .ok (.getfield 26, 3) := by decide +kernel
theorem dX5_hasRightPass_129 : decode cX5_hasRightPass 129 = .ok (.getfield 54, 3) := by decide +kernel
theorem dX5_hasRightPass_132 : decode cX5_hasRightPass 132 = .ok (.iload 7, 2) := by decide +kernel
theorem dX5_hasRightPass_134 : decode cX5_hasRightPass 134 = .ok (.iaload, 1) := by decide +kernel
theorem dX5_hasRightPass_135 : decode cX5_hasRightPass 135 = .ok (.bipush 6, 2) := by decide +kernel
theorem dX5_hasRightPass_137 : decode cX5_hasRightPass 137 = .ok (.ishr, 1) := by decide +kernel
theorem dX5_hasRightPass_138 : decode cX5_hasRightPass 138 = .ok (.bipush 16, 2) := by decide +kernel
theorem dX5_hasRightPass_140 : decode cX5_hasRightPass 140 = .ok (.iand, 1) := by decide +kernel
theorem dX5_hasRightPass_141 : decode cX5_hasRightPass 141 = .ok (.ifCond .eq 32, 3) := by decide +kernel
theorem dX5_hasRightPass_144 : decode cX5_hasRightPass 144 = .ok (.aload_n 0, 1) := by decide +kernel
theorem dX5_hasRightPass_145 : decode cX5_hasRightPass 145 = .ok (.getfield 26, 3) := by decide +kernel
theorem dX5_hasRightPass_148 : decode cX5_hasRightPass 148 = .ok (.getfield 54, 3) := by decide +kernel
theorem dX5_hasRightPass_151 : decode cX5_hasRightPass 151 = .ok (.iload 7, 2) := by decide +kernel
theorem dX5_hasRightPass_153 : decode cX5_hasRightPass 153 = .ok (.iaload, 1) := by decide +kernel
theorem dX5_hasRightPass_154 : decode cX5_hasRightPass 154 = .ok (.bipush 12, 2) := by decide +kernel
theorem dX5_hasRightPass_156 : decode cX5_hasRightPass 156 = .ok (.ishr, 1) := by decide +kernel
theorem dX5_hasRightPass_157 : decode cX5_hasRightPass 157 = .ok (.iload_n 2, 1) := by decide +kernel
theorem dX5_hasRightPass_158 : decode cX5_hasRightPass 158 = .ok (.if_icmp .ne 15, 3) := by decide +kernel
theorem dX5_hasRightPass_161 : decode cX5_hasRightPass 161 = .ok (.aload_n 1, 1) := by decide +kernel
theorem dX5_hasRightPass_162 : decode cX5_hasRightPass 162 = .ok (.iload 5, 2) := by decide +kernel
theorem dX5_hasRightPass_164 : decode cX5_hasRightPass 164 = .ok (.iload_n 2, 1) := by decide +kernel
theorem dX5_hasRightPass_165 : decode cX5_hasRightPass 165 = .ok (.invokestatic 339, 3) := by decide +kernel
theorem dX5_hasRightPass_168 : decode cX5_hasRightPass 168 = .ok (.ifCond .eq 5, 3) := by decide +kernel
theorem dX5_hasRightPass_171 : decode cX5_hasRightPass 171 = .ok (.iconst 1, 1) := by decide +kernel
theorem dX5_hasRightPass_172 : decode cX5_hasRightPass 172 = .ok (.ireturn, 1) := by decide +kernel
theorem dX5_hasRightPass_173 : decode cX5_hasRightPass 173 = .ok (.iinc 7 1, 3) := by decide +kernel
theorem dX5_hasRightPass_176 : decode cX5_hasRightPass 176 = .ok (.goto (-68), 3) := by decide +kernel
theorem dX5_hasRightPass_179 : decode cX5_hasRightPass 179 = .ok (.iinc 5 1, 3) := by decide +kernel
theorem dX5_hasRightPass_182 : decode cX5_hasRightPass 182 = .ok (.goto (-122), 3) := by decide +kernel
theorem dX5_hasRightPass_185 : decode cX5_hasRightPass 185 = .ok (.iconst 0, 1) := by decide +kernel
theorem dX5_hasRightPass_186 : decode cX5_hasRightPass 186 = .ok (.ireturn, 1) := by decide +kernel
def sX5_hasRightPass_55 (F : Nat) (h : Hp) : Option (Int32 × Hp) := some ((0 : Int32), h)
def sX5_hasRightPass_179 (F : Nat) (k_60 : Hp → Nat → Nat → Int32 → Int32 → Int32 → Int32 → Option (Int32 × Hp)) (h : Hp) (x0 : Nat) (x1 : Nat) (x2 : Int32) (x3 : Int32) (x4 : Int32) (x5 : Int32) : Option (Int32 × Hp) := nm (x5 + (1 : Int32)) fun v_1 => k_60 h x0 x1 x2 x3 x4 v_1
def sX5_hasRightPass_173 (F : Nat) (k_60 : Hp → Nat → Nat → Int32 → Int32 → Int32 → Int32 → Option (Int32 × Hp)) (k_108 : Hp → Nat → Nat → Int32 → Int32 → Int32 → Int32 → Int32 → Int32 → Option (Int32 × Hp)) (h : Hp) (x0 : Nat) (x1 : Nat) (x2 : Int32) (x3 : Int32) (x4 : Int32) (x5 : Int32) (x6 : Int32) (x7 : Int32) : Option (Int32 × Hp) := nm (x7 + (1 : Int32)) fun v_1 => k_108 h x0 x1 x2 x3 x4 x5 x6 v_1
def sX5_hasRightPass_108 (F : Nat) (k_60 : Hp → Nat → Nat → Int32 → Int32 → Int32 → Int32 → Option (Int32 × Hp)) : Nat → Hp → Nat → Nat → Int32 → Int32 → Int32 → Int32 → Int32 → Int32 → Option (Int32 × Hp)
  | 0, _, _, _, _, _, _, _, _, _ => none
  | f + 1, h, x0, x1, x2, x3, x4, x5, x6, x7 => cl (hR h x0 1) fun r_1 => cl (hR h r_1 0) fun r_2 => gd (inB (x6 + (1 : Int32)) (hN h r_2)) <| br ((hI h r_2 (x6 + (1 : Int32)).toNatClampNeg) ≤ x7) (sX5_hasRightPass_179 F k_60 h x0 x1 x2 x3 x4 x5) (cl (hR h x0 1) fun r_5 => cl (hR h r_5 1) fun r_6 => gd (inB x7 (hN h r_6)) <| br ((((hI h r_6 x7.toNatClampNeg) >>> ((6 : Int32) &&& 31)) &&& (16 : Int32)) = 0) (sX5_hasRightPass_173 F k_60 (sX5_hasRightPass_108 F k_60 f) h x0 x1 x2 x3 x4 x5 x6 x7) (cl (hR h x0 1) fun r_9 => cl (hR h r_9 1) fun r_10 => gd (inB x7 (hN h r_10)) <| br (((hI h r_10 x7.toNatClampNeg) >>> ((12 : Int32) &&& 31)) = x2) (cl (sX5_wentOver F h x1 x5 x2) fun o_13 => br (o_13.1 = 0) (sX5_hasRightPass_173 F k_60 (sX5_hasRightPass_108 F k_60 f) o_13.2 x0 x1 x2 x3 x4 x5 x6 x7) (some ((1 : Int32), o_13.2))) (sX5_hasRightPass_173 F k_60 (sX5_hasRightPass_108 F k_60 f) h x0 x1 x2 x3 x4 x5 x6 x7)))
def sX5_hasRightPass_60 (F : Nat) : Nat → Hp → Nat → Nat → Int32 → Int32 → Int32 → Int32 → Option (Int32 × Hp)
  | 0, _, _, _, _, _, _, _ => none
  | f + 1, h, x0, x1, x2, x3, x4, x5 => cl (hR h x0 0) fun r_1 => br ((hI h r_1 2) ≤ x5) (some ((0 : Int32), h)) (cl (hR h x1 0) fun r_3 => gd (inB x5 (hN h r_3)) <| br ((hI h r_3 x5.toNatClampNeg) = (-1 : Int32)) (cl (sX10_cell h x4 x5 x3) fun o_6 => cl (hR o_6.2 x0 1) fun r_7 => cl (hR o_6.2 r_7 0) fun r_8 => gd (inB o_6.1 (hN o_6.2 r_8)) <| nm (hI o_6.2 r_8 o_6.1.toNatClampNeg) fun v_10 => sX5_hasRightPass_108 F (sX5_hasRightPass_60 F f) F o_6.2 x0 x1 x2 x3 x4 x5 o_6.1 v_10) (sX5_hasRightPass_179 F (sX5_hasRightPass_60 F f) h x0 x1 x2 x3 x4 x5))
def sX5_hasRightPass (F : Nat) (h : Hp) (x0 : Nat) (x1 : Nat) : Option (Int32 × Hp) := cl (sX3_passSize h x1) fun o_1 => cl (sX3_passSquare o_1.2 x1 (0 : Int32)) fun o_2 => cl (hR o_2.2 x1 0) fun r_3 => gd (inB o_2.1 (hN o_2.2 r_3)) <| nm (hI o_2.2 r_3 o_2.1.toNatClampNeg) fun v_5 => br (o_1.1 < (2 : Int32)) (sX5_hasRightPass_55 F o_2.2 ) (br (v_5 = (-1 : Int32)) (sX5_hasRightPass_55 F o_2.2 ) (br ((v_5 &&& (1 : Int32)) = (hI o_2.2 x1 5)) (sX5_hasRightPass_55 F o_2.2 ) (cl (sX3_occupied o_2.2 x1) fun o_9 => br ((lg_cmp ((hJ o_2.2 x1 10) &&& o_9.1) (0 : Int64)) = 0) (sX5_hasRightPass_60 F F o_9.2 x0 x1 o_1.1 o_2.1 v_5 (0 : Int32)) (sX5_hasRightPass_55 F o_9.2 ))))
set_option maxRecDepth 20000 in
theorem bX5_hasRightPass_55 {p : Program} {l : Launch} {e : Env} {s : State} {m : MethodId} {args : Array Value} {below : List Frame} {meth : Method} {c : Code} {X : Ec} {h0 : Hp} {o : Int32 × Hp} {F : Nat} (C : Cx X p s m args meth c RX5 cX5_hasRightPass 8 (some .boolean) "hasRightPass") {h : Hp} {H : Heap} {locs : List Loc} (hkm : Km h0 h) (hW : Wx X h H) (hZ : va_S (aA (eB X)) s.heap H locs) (ls : Array Slot) (hl : lv_has ls 8 []) (hE : sX5_hasRightPass_55 F h  = some o) : W p l e (rm 2 45) s m args below meth c H locs 0 0 (MQ below (QI X h0 o.1 o.2) args s 0 0 (aA (eB X))) (F0 m 55 ls []) := by
  refine lv_iconst (v := (0 : Int32)) C.1 C.2.1 dX5_hasRightPass_55 (by decide) ?_
  exact x_iret C rfl (by decide) hW hZ hkm hE dX5_hasRightPass_56
set_option maxRecDepth 20000 in
theorem bX5_hasRightPass_179 {p : Program} {l : Launch} {e : Env} {s : State} {m : MethodId} {args : Array Value} {below : List Frame} {meth : Method} {c : Code} {X : Ec} {h0 : Hp} {o : Int32 × Hp} {k_60 : Hp → Nat → Nat → Int32 → Int32 → Int32 → Int32 → Option (Int32 × Hp)} {F : Nat} (C : Cx X p s m args meth c RX5 cX5_hasRightPass 8 (some .boolean) "hasRightPass") (hk_60 : ∀ (h : Hp) (x0 : Nat) (x1 : Nat) (x2 : Int32) (x3 : Int32) (x4 : Int32) (x5 : Int32) (H : Heap) (locs : List Loc), hK h x0 = 5 → hK h x1 = 3 → Km h0 h → Wx X h H → va_S (aA (eB X)) s.heap H locs → ∀ (ls : Array Slot), lv_has ls 8 [(0, .ref x0), (1, .ref x1), (2, .int x2), (3, .int x3), (4, .int x4), (5, .int x5)] → k_60 h x0 x1 x2 x3 x4 x5 = some o → W p l e (rm 2 45) s m args below meth c H locs 0 0 (MQ below (QI X h0 o.1 o.2) args s 0 0 (aA (eB X))) (F0 m 60 ls [])) {h : Hp} {x0 : Nat} {x1 : Nat} {x2 : Int32} {x3 : Int32} {x4 : Int32} {x5 : Int32} {H : Heap} {locs : List Loc} (k_x0 : hK h x0 = 5) (k_x1 : hK h x1 = 3) (hkm : Km h0 h) (hW : Wx X h H) (hZ : va_S (aA (eB X)) s.heap H locs) (ls : Array Slot) (hl : lv_has ls 8 [(0, .ref x0), (1, .ref x1), (2, .int x2), (3, .int x3), (4, .int x4), (5, .int x5)]) (hE : sX5_hasRightPass_179 F k_60 h x0 x1 x2 x3 x4 x5 = some o) : W p l e (rm 2 45) s m args below meth c H locs 0 0 (MQ below (QI X h0 o.1 o.2) args s 0 0 (aA (eB X))) (F0 m 179 ls []) := by
  obtain ⟨v_1, ev_1, hE⟩ := nm_e2 hE
  refine lv_iinc (v := v_1) (lv' := [(5, .int v_1), (0, .ref x0), (1, .ref x1), (2, .int x2), (3, .int x3), (4, .int x4)]) C.1 C.2.1 dX5_hasRightPass_179 hl (k := 5) rfl (by rw [ev_1]; rfl) (by decide) rfl (fun ls hl => ?_)
  refine lv_goto (tgt := 60) C.1 C.2.1 dX5_hasRightPass_182 (by decide) ?_
  exact hk_60 _ _ _ _ _ _ _ _ _ k_x0 k_x1 hkm hW hZ _ (lv_sub hl [1, 2, 3, 4, 5, 0] rfl) hE
set_option maxRecDepth 20000 in
theorem bX5_hasRightPass_173 {p : Program} {l : Launch} {e : Env} {s : State} {m : MethodId} {args : Array Value} {below : List Frame} {meth : Method} {c : Code} {X : Ec} {h0 : Hp} {o : Int32 × Hp} {k_60 : Hp → Nat → Nat → Int32 → Int32 → Int32 → Int32 → Option (Int32 × Hp)} {k_108 : Hp → Nat → Nat → Int32 → Int32 → Int32 → Int32 → Int32 → Int32 → Option (Int32 × Hp)} {F : Nat} (C : Cx X p s m args meth c RX5 cX5_hasRightPass 8 (some .boolean) "hasRightPass") (hk_60 : ∀ (h : Hp) (x0 : Nat) (x1 : Nat) (x2 : Int32) (x3 : Int32) (x4 : Int32) (x5 : Int32) (H : Heap) (locs : List Loc), hK h x0 = 5 → hK h x1 = 3 → Km h0 h → Wx X h H → va_S (aA (eB X)) s.heap H locs → ∀ (ls : Array Slot), lv_has ls 8 [(0, .ref x0), (1, .ref x1), (2, .int x2), (3, .int x3), (4, .int x4), (5, .int x5)] → k_60 h x0 x1 x2 x3 x4 x5 = some o → W p l e (rm 2 45) s m args below meth c H locs 0 0 (MQ below (QI X h0 o.1 o.2) args s 0 0 (aA (eB X))) (F0 m 60 ls [])) (hk_108 : ∀ (h : Hp) (x0 : Nat) (x1 : Nat) (x2 : Int32) (x3 : Int32) (x4 : Int32) (x5 : Int32) (x6 : Int32) (x7 : Int32) (H : Heap) (locs : List Loc), hK h x0 = 5 → hK h x1 = 3 → Km h0 h → Wx X h H → va_S (aA (eB X)) s.heap H locs → ∀ (ls : Array Slot), lv_has ls 8 [(0, .ref x0), (1, .ref x1), (2, .int x2), (3, .int x3), (4, .int x4), (5, .int x5), (6, .int x6), (7, .int x7)] → k_108 h x0 x1 x2 x3 x4 x5 x6 x7 = some o → W p l e (rm 2 45) s m args below meth c H locs 0 0 (MQ below (QI X h0 o.1 o.2) args s 0 0 (aA (eB X))) (F0 m 108 ls [])) {h : Hp} {x0 : Nat} {x1 : Nat} {x2 : Int32} {x3 : Int32} {x4 : Int32} {x5 : Int32} {x6 : Int32} {x7 : Int32} {H : Heap} {locs : List Loc} (k_x0 : hK h x0 = 5) (k_x1 : hK h x1 = 3) (hkm : Km h0 h) (hW : Wx X h H) (hZ : va_S (aA (eB X)) s.heap H locs) (ls : Array Slot) (hl : lv_has ls 8 [(0, .ref x0), (1, .ref x1), (2, .int x2), (3, .int x3), (4, .int x4), (5, .int x5), (6, .int x6), (7, .int x7)]) (hE : sX5_hasRightPass_173 F k_60 k_108 h x0 x1 x2 x3 x4 x5 x6 x7 = some o) : W p l e (rm 2 45) s m args below meth c H locs 0 0 (MQ below (QI X h0 o.1 o.2) args s 0 0 (aA (eB X))) (F0 m 173 ls []) := by
  obtain ⟨v_1, ev_1, hE⟩ := nm_e2 hE
  refine lv_iinc (v := v_1) (lv' := [(7, .int v_1), (0, .ref x0), (1, .ref x1), (2, .int x2), (3, .int x3), (4, .int x4), (5, .int x5), (6, .int x6)]) C.1 C.2.1 dX5_hasRightPass_173 hl (k := 7) rfl (by rw [ev_1]; rfl) (by decide) rfl (fun ls hl => ?_)
  refine lv_goto (tgt := 108) C.1 C.2.1 dX5_hasRightPass_176 (by decide) ?_
  exact hk_108 _ _ _ _ _ _ _ _ _ _ _ k_x0 k_x1 hkm hW hZ _ (lv_sub hl [1, 2, 3, 4, 5, 6, 7, 0] rfl) hE
set_option maxRecDepth 20000 in
theorem bX5_hasRightPass_108 {p : Program} {l : Launch} {e : Env} {s : State} {m : MethodId} {args : Array Value} {below : List Frame} {meth : Method} {c : Code} {X : Ec} {h0 : Hp} {o : Int32 × Hp} {k_60 : Hp → Nat → Nat → Int32 → Int32 → Int32 → Int32 → Option (Int32 × Hp)} {F : Nat} (C : Cx X p s m args meth c RX5 cX5_hasRightPass 8 (some .boolean) "hasRightPass") (hk_60 : ∀ (h : Hp) (x0 : Nat) (x1 : Nat) (x2 : Int32) (x3 : Int32) (x4 : Int32) (x5 : Int32) (H : Heap) (locs : List Loc), hK h x0 = 5 → hK h x1 = 3 → Km h0 h → Wx X h H → va_S (aA (eB X)) s.heap H locs → ∀ (ls : Array Slot), lv_has ls 8 [(0, .ref x0), (1, .ref x1), (2, .int x2), (3, .int x3), (4, .int x4), (5, .int x5)] → k_60 h x0 x1 x2 x3 x4 x5 = some o → W p l e (rm 2 45) s m args below meth c H locs 0 0 (MQ below (QI X h0 o.1 o.2) args s 0 0 (aA (eB X))) (F0 m 60 ls [])) : ∀ (f : Nat) {h : Hp} {x0 : Nat} {x1 : Nat} {x2 : Int32} {x3 : Int32} {x4 : Int32} {x5 : Int32} {x6 : Int32} {x7 : Int32} {H : Heap} {locs : List Loc} (k_x0 : hK h x0 = 5) (k_x1 : hK h x1 = 3), Km h0 h → Wx X h H → va_S (aA (eB X)) s.heap H locs → ∀ (ls : Array Slot), lv_has ls 8 [(0, .ref x0), (1, .ref x1), (2, .int x2), (3, .int x3), (4, .int x4), (5, .int x5), (6, .int x6), (7, .int x7)] → sX5_hasRightPass_108 F k_60 f h x0 x1 x2 x3 x4 x5 x6 x7 = some o → W p l e (rm 2 45) s m args below meth c H locs 0 0 (MQ below (QI X h0 o.1 o.2) args s 0 0 (aA (eB X))) (F0 m 108 ls []) := by
  intro f
  induction f with
  | zero =>
    intro h x0 x1 x2 x3 x4 x5 x6 x7 H locs k_x0 k_x1 hkm hW hZ ls hl hE
    rw [sX5_hasRightPass_108] at hE
    cases hE
  | succ f ih =>
    intro h x0 x1 x2 x3 x4 x5 x6 x7 H locs k_x0 k_x1 hkm hW hZ ls hl hE
    rw [sX5_hasRightPass_108] at hE
    have hk_108 : ∀ (h : Hp) (x0 : Nat) (x1 : Nat) (x2 : Int32) (x3 : Int32) (x4 : Int32) (x5 : Int32) (x6 : Int32) (x7 : Int32) (H : Heap) (locs : List Loc), hK h x0 = 5 → hK h x1 = 3 → Km h0 h → Wx X h H → va_S (aA (eB X)) s.heap H locs → ∀ (ls : Array Slot), lv_has ls 8 [(0, .ref x0), (1, .ref x1), (2, .int x2), (3, .int x3), (4, .int x4), (5, .int x5), (6, .int x6), (7, .int x7)] → sX5_hasRightPass_108 F k_60 f h x0 x1 x2 x3 x4 x5 x6 x7 = some o → W p l e (rm 2 45) s m args below meth c H locs 0 0 (MQ below (QI X h0 o.1 o.2) args s 0 0 (aA (eB X))) (F0 m 108 ls []) := fun h x0 x1 x2 x3 x4 x5 x6 x7 H locs k_x0 k_x1 a b c ls hl hE => ih k_x0 k_x1 a b c ls hl hE
    refine lv_iload C.1 C.2.1 dX5_hasRightPass_108 (lv_at hl 7 rfl) ?_
    refine lv_aload_n C.1 C.2.1 dX5_hasRightPass_110 rfl (lv_at hl 0 rfl) ?_
    obtain ⟨r_1, er_1, hE⟩ := cl_e hE
    refine gf_X5_26 C hW k_x0 er_1 dX5_hasRightPass_111 (fun k_r_1 => ?_)
    obtain ⟨r_2, er_2, hE⟩ := cl_e hE
    refine gf_X5_51 C hW k_r_1 er_2 dX5_hasRightPass_114 (fun k_r_2 => ?_)
    refine lv_iload C.1 C.2.1 dX5_hasRightPass_117 (lv_at hl 6 rfl) ?_
    refine lv_iconst (v := (1 : Int32)) C.1 C.2.1 dX5_hasRightPass_119 (by decide) ?_
    refine lv_iadd C.1 C.2.1 dX5_hasRightPass_120 ?_
    obtain ⟨g_3, hE⟩ := gd_e hE
    refine y_iald C hW k_r_2 g_3 dX5_hasRightPass_121 ?_
    refine lv_icmp_ge (tgt := 179) C.1 C.2.1 dX5_hasRightPass_122 (by decide) (fun c_4 => ?_) (fun c_4 => ?_)
    · have hE := br_p hE c_4
      exact bX5_hasRightPass_179 C hk_60 k_x0 k_x1 hkm hW hZ _ (lv_sub hl [0, 1, 2, 3, 4, 5] rfl) hE
    · have hE := br_n hE c_4
      refine lv_aload_n C.1 C.2.1 dX5_hasRightPass_125 rfl (lv_at hl 0 rfl) ?_
      obtain ⟨r_5, er_5, hE⟩ := cl_e hE
      refine gf_X5_26 C hW k_x0 er_5 dX5_hasRightPass_126 (fun k_r_5 => ?_)
      obtain ⟨r_6, er_6, hE⟩ := cl_e hE
      refine gf_X5_54 C hW k_r_5 er_6 dX5_hasRightPass_129 (fun k_r_6 => ?_)
      refine lv_iload C.1 C.2.1 dX5_hasRightPass_132 (lv_at hl 7 rfl) ?_
      obtain ⟨g_7, hE⟩ := gd_e hE
      refine y_iald C hW k_r_6 g_7 dX5_hasRightPass_134 ?_
      refine lv_bipush (v := (6 : Int32)) C.1 C.2.1 dX5_hasRightPass_135 (by decide) ?_
      refine lv_ishr C.1 C.2.1 dX5_hasRightPass_137 ?_
      refine lv_bipush (v := (16 : Int32)) C.1 C.2.1 dX5_hasRightPass_138 (by decide) ?_
      refine lv_iand C.1 C.2.1 dX5_hasRightPass_140 ?_
      refine lv_if_eq (tgt := 173) C.1 C.2.1 dX5_hasRightPass_141 (by decide) (fun c_8 => ?_) (fun c_8 => ?_)
      · have hE := br_p hE c_8
        exact bX5_hasRightPass_173 C hk_60 hk_108 k_x0 k_x1 hkm hW hZ _ (lv_sub hl [0, 1, 2, 3, 4, 5, 6, 7] rfl) hE
      · have hE := br_n hE c_8
        refine lv_aload_n C.1 C.2.1 dX5_hasRightPass_144 rfl (lv_at hl 0 rfl) ?_
        obtain ⟨r_9, er_9, hE⟩ := cl_e hE
        refine gf_X5_26 C hW k_x0 er_9 dX5_hasRightPass_145 (fun k_r_9 => ?_)
        obtain ⟨r_10, er_10, hE⟩ := cl_e hE
        refine gf_X5_54 C hW k_r_9 er_10 dX5_hasRightPass_148 (fun k_r_10 => ?_)
        refine lv_iload C.1 C.2.1 dX5_hasRightPass_151 (lv_at hl 7 rfl) ?_
        obtain ⟨g_11, hE⟩ := gd_e hE
        refine y_iald C hW k_r_10 g_11 dX5_hasRightPass_153 ?_
        refine lv_bipush (v := (12 : Int32)) C.1 C.2.1 dX5_hasRightPass_154 (by decide) ?_
        refine lv_ishr C.1 C.2.1 dX5_hasRightPass_156 ?_
        refine lv_iload_n C.1 C.2.1 dX5_hasRightPass_157 rfl (lv_at hl 2 rfl) ?_
        refine lv_icmp_ne (tgt := 173) C.1 C.2.1 dX5_hasRightPass_158 (by decide) (fun c_12 => ?_) (fun c_12 => ?_)
        · have hE := br_n hE c_12
          exact bX5_hasRightPass_173 C hk_60 hk_108 k_x0 k_x1 hkm hW hZ _ (lv_sub hl [0, 1, 2, 3, 4, 5, 6, 7] rfl) hE
        · have hE := br_p hE c_12
          refine lv_aload_n C.1 C.2.1 dX5_hasRightPass_161 rfl (lv_at hl 1 rfl) ?_
          refine lv_iload C.1 C.2.1 dX5_hasRightPass_162 (lv_at hl 5 rfl) ?_
          refine lv_iload_n C.1 C.2.1 dX5_hasRightPass_164 rfl (lv_at hl 2 rfl) ?_
          obtain ⟨o_13, eo_13, hE⟩ := cl_e hE
          refine x_kI (o := o_13) (z_runS (As := [.ref x1, .int x5, .int x2]) (rest := []) C (ct_X5_wentOver l X F k_x1 eo_13) cw_X5_339 hW hZ rfl hl.1 (Nat.le_of_ble_eq_true rfl) rfl dX5_hasRightPass_165 ⟨Nat.le_of_ble_eq_true rfl, Nat.le_of_ble_eq_true rfl⟩ ⟨Nat.le_refl _, Nat.le_refl _⟩) hZ (fun _ _ hW km hZ => ?_)
          replace hkm := hkm.tr km
          replace k_x0 := km.at k_x0 (by decide)
          replace k_x1 := km.at k_x1 (by decide)
          refine lv_if_eq (tgt := 173) C.1 C.2.1 dX5_hasRightPass_168 (by decide) (fun c_14 => ?_) (fun c_14 => ?_)
          · have hE := br_p hE c_14
            exact bX5_hasRightPass_173 C hk_60 hk_108 k_x0 k_x1 hkm hW hZ _ (lv_sub hl [0, 1, 2, 3, 4, 5, 6, 7] rfl) hE
          · have hE := br_n hE c_14
            refine lv_iconst (v := (1 : Int32)) C.1 C.2.1 dX5_hasRightPass_171 (by decide) ?_
            exact x_iret C rfl (by decide) hW hZ hkm hE dX5_hasRightPass_172
set_option maxRecDepth 20000 in
theorem bX5_hasRightPass_60 {p : Program} {l : Launch} {e : Env} {s : State} {m : MethodId} {args : Array Value} {below : List Frame} {meth : Method} {c : Code} {X : Ec} {h0 : Hp} {o : Int32 × Hp} {F : Nat} (C : Cx X p s m args meth c RX5 cX5_hasRightPass 8 (some .boolean) "hasRightPass") : ∀ (f : Nat) {h : Hp} {x0 : Nat} {x1 : Nat} {x2 : Int32} {x3 : Int32} {x4 : Int32} {x5 : Int32} {H : Heap} {locs : List Loc} (k_x0 : hK h x0 = 5) (k_x1 : hK h x1 = 3), Km h0 h → Wx X h H → va_S (aA (eB X)) s.heap H locs → ∀ (ls : Array Slot), lv_has ls 8 [(0, .ref x0), (1, .ref x1), (2, .int x2), (3, .int x3), (4, .int x4), (5, .int x5)] → sX5_hasRightPass_60 F f h x0 x1 x2 x3 x4 x5 = some o → W p l e (rm 2 45) s m args below meth c H locs 0 0 (MQ below (QI X h0 o.1 o.2) args s 0 0 (aA (eB X))) (F0 m 60 ls []) := by
  intro f
  induction f with
  | zero =>
    intro h x0 x1 x2 x3 x4 x5 H locs k_x0 k_x1 hkm hW hZ ls hl hE
    rw [sX5_hasRightPass_60] at hE
    cases hE
  | succ f ih =>
    intro h x0 x1 x2 x3 x4 x5 H locs k_x0 k_x1 hkm hW hZ ls hl hE
    rw [sX5_hasRightPass_60] at hE
    have hk_60 : ∀ (h : Hp) (x0 : Nat) (x1 : Nat) (x2 : Int32) (x3 : Int32) (x4 : Int32) (x5 : Int32) (H : Heap) (locs : List Loc), hK h x0 = 5 → hK h x1 = 3 → Km h0 h → Wx X h H → va_S (aA (eB X)) s.heap H locs → ∀ (ls : Array Slot), lv_has ls 8 [(0, .ref x0), (1, .ref x1), (2, .int x2), (3, .int x3), (4, .int x4), (5, .int x5)] → sX5_hasRightPass_60 F f h x0 x1 x2 x3 x4 x5 = some o → W p l e (rm 2 45) s m args below meth c H locs 0 0 (MQ below (QI X h0 o.1 o.2) args s 0 0 (aA (eB X))) (F0 m 60 ls []) := fun h x0 x1 x2 x3 x4 x5 H locs k_x0 k_x1 a b c ls hl hE => ih k_x0 k_x1 a b c ls hl hE
    refine lv_iload C.1 C.2.1 dX5_hasRightPass_60 (lv_at hl 5 rfl) ?_
    refine lv_aload_n C.1 C.2.1 dX5_hasRightPass_62 rfl (lv_at hl 0 rfl) ?_
    obtain ⟨r_1, er_1, hE⟩ := cl_e hE
    refine gf_X5_22 C hW k_x0 er_1 dX5_hasRightPass_63 (fun k_r_1 => ?_)
    refine gf_X5_110 C hW k_r_1 dX5_hasRightPass_66 ?_
    refine lv_icmp_ge (tgt := 185) C.1 C.2.1 dX5_hasRightPass_69 (by decide) (fun c_2 => ?_) (fun c_2 => ?_)
    · have hE := br_p hE c_2
      refine lv_iconst (v := (0 : Int32)) C.1 C.2.1 dX5_hasRightPass_185 (by decide) ?_
      exact x_iret C rfl (by decide) hW hZ hkm hE dX5_hasRightPass_186
    · have hE := br_n hE c_2
      refine lv_aload_n C.1 C.2.1 dX5_hasRightPass_72 rfl (lv_at hl 1 rfl) ?_
      obtain ⟨r_3, er_3, hE⟩ := cl_e hE
      refine gf_X5_42 C hW k_x1 er_3 dX5_hasRightPass_73 (fun k_r_3 => ?_)
      refine lv_iload C.1 C.2.1 dX5_hasRightPass_76 (lv_at hl 5 rfl) ?_
      obtain ⟨g_4, hE⟩ := gd_e hE
      refine y_bald C hW k_r_3 g_4 dX5_hasRightPass_78 ?_
      refine lv_iconst (v := (-1 : Int32)) C.1 C.2.1 dX5_hasRightPass_79 (by decide) ?_
      refine lv_icmp_eq (tgt := 86) C.1 C.2.1 dX5_hasRightPass_80 (by decide) (fun c_5 => ?_) (fun c_5 => ?_)
      · have hE := br_p hE c_5
        refine lv_iload C.1 C.2.1 dX5_hasRightPass_86 (lv_at hl 4 rfl) ?_
        refine lv_iload C.1 C.2.1 dX5_hasRightPass_88 (lv_at hl 5 rfl) ?_
        refine lv_iload_n C.1 C.2.1 dX5_hasRightPass_90 rfl (lv_at hl 3 rfl) ?_
        obtain ⟨o_6, eo_6, hE⟩ := cl_e hE
        refine x_kI (o := o_6) (z_runS (As := [.int x4, .int x5, .int x3]) (rest := []) C (ct_X10_cell l X eo_6) cw_X5_142 hW hZ rfl hl.1 (Nat.le_of_ble_eq_true rfl) rfl dX5_hasRightPass_91 ⟨Nat.le_of_ble_eq_true rfl, Nat.le_of_ble_eq_true rfl⟩ ⟨Nat.le_refl _, Nat.le_refl _⟩) hZ (fun _ _ hW km hZ => ?_)
        replace hkm := hkm.tr km
        replace k_x0 := km.at k_x0 (by decide)
        replace k_x1 := km.at k_x1 (by decide)
        refine lv_istore (lv' := [(6, .int o_6.1), (0, .ref x0), (1, .ref x1), (2, .int x2), (3, .int x3), (4, .int x4), (5, .int x5)]) C.1 C.2.1 dX5_hasRightPass_94 hl (by decide) rfl (fun ls hl => ?_)
        refine lv_aload_n C.1 C.2.1 dX5_hasRightPass_96 rfl (lv_at hl 1 rfl) ?_
        obtain ⟨r_7, er_7, hE⟩ := cl_e hE
        refine gf_X5_26 C hW k_x0 er_7 dX5_hasRightPass_97 (fun k_r_7 => ?_)
        obtain ⟨r_8, er_8, hE⟩ := cl_e hE
        refine gf_X5_51 C hW k_r_7 er_8 dX5_hasRightPass_100 (fun k_r_8 => ?_)
        refine lv_iload C.1 C.2.1 dX5_hasRightPass_103 (lv_at hl 0 rfl) ?_
        obtain ⟨g_9, hE⟩ := gd_e hE
        refine y_iald C hW k_r_8 g_9 dX5_hasRightPass_105 ?_
        obtain ⟨v_10, ev_10, hE⟩ := nm_e2 hE
        refine x_nmI ev_10 ?_
        refine lv_istore (lv' := [(7, .int v_10), (6, .int o_6.1), (0, .ref x0), (1, .ref x1), (2, .int x2), (3, .int x3), (4, .int x4), (5, .int x5)]) C.1 C.2.1 dX5_hasRightPass_106 hl (by decide) rfl (fun ls hl => ?_)
        exact bX5_hasRightPass_108 C hk_60 F k_x0 k_x1 hkm hW hZ _ (lv_sub hl [2, 3, 4, 5, 6, 7, 1, 0] rfl) hE
      · have hE := br_n hE c_5
        refine lv_goto (tgt := 179) C.1 C.2.1 dX5_hasRightPass_83 (by decide) ?_
        exact bX5_hasRightPass_179 C hk_60 k_x0 k_x1 hkm hW hZ _ (lv_sub hl [0, 1, 2, 3, 4, 5] rfl) hE
set_option maxRecDepth 20000 in
theorem ct_X5_hasRightPass (l : Launch) (X : Ec) (F : Nat) {h : Hp} {x0 : Nat} {x1 : Nat} {o : Int32 × Hp} (k_x0 : hK h x0 = 5) (k_x1 : hK h x1 = 3) (hE : sX5_hasRightPass F h x0 x1 = some o) : MetI l yX5_hasRightPass cX5_hasRightPass 8 (some .boolean) 2 45 X [.ref x0, .ref x1] h o := by
  refine x_met (by decide) (Nat.le_of_ble_eq_true rfl) ?_
  intro p e s m below meth c ls C hl hW hZ
  have hl : lv_has ls 8 [(0, .ref x0), (1, .ref x1)] := hl
  have hkm : Km h h := Km.rf h
  refine lv_aload_n C.1 C.2.1 dX5_hasRightPass_0 rfl (lv_at hl 1 rfl) ?_
  obtain ⟨o_1, eo_1, hE⟩ := cl_e hE
  refine x_kI (o := o_1) (z_runV (As := []) (rest := []) C (ct_X3_passSize l X k_x1 eo_1) cw_X5_335 hW hZ k_x1 (by decide) rfl rfl rfl hl.1 (Nat.le_of_ble_eq_true rfl) rfl dX5_hasRightPass_1 ⟨Nat.le_of_ble_eq_true rfl, Nat.le_of_ble_eq_true rfl⟩ ⟨Nat.le_refl _, Nat.le_refl _⟩) hZ (fun _ _ hW km hZ => ?_)
  replace hkm := hkm.tr km
  replace k_x0 := km.at k_x0 (by decide)
  replace k_x1 := km.at k_x1 (by decide)
  refine lv_istore_n (lv' := [(2, .int o_1.1), (0, .ref x0), (1, .ref x1)]) C.1 C.2.1 dX5_hasRightPass_4 rfl hl (by decide) rfl (fun ls hl => ?_)
  refine lv_aload_n C.1 C.2.1 dX5_hasRightPass_5 rfl (lv_at hl 2 rfl) ?_
  refine lv_iconst (v := (0 : Int32)) C.1 C.2.1 dX5_hasRightPass_6 (by decide) ?_
  obtain ⟨o_2, eo_2, hE⟩ := cl_e hE
  refine x_kI (o := o_2) (z_runV (As := [.int (0 : Int32)]) (rest := []) C (ct_X3_passSquare l X k_x1 eo_2) cw_X5_173 hW hZ k_x1 (by decide) rfl rfl rfl hl.1 (Nat.le_of_ble_eq_true rfl) rfl dX5_hasRightPass_7 ⟨Nat.le_of_ble_eq_true rfl, Nat.le_of_ble_eq_true rfl⟩ ⟨Nat.le_refl _, Nat.le_refl _⟩) hZ (fun _ _ hW km hZ => ?_)
  replace hkm := hkm.tr km
  replace k_x0 := km.at k_x0 (by decide)
  replace k_x1 := km.at k_x1 (by decide)
  refine lv_istore_n (lv' := [(3, .int o_2.1), (2, .int o_1.1), (0, .ref x0), (1, .ref x1)]) C.1 C.2.1 dX5_hasRightPass_10 rfl hl (by decide) rfl (fun ls hl => ?_)
  refine lv_aload_n C.1 C.2.1 dX5_hasRightPass_11 rfl (lv_at hl 3 rfl) ?_
  obtain ⟨r_3, er_3, hE⟩ := cl_e hE
  refine gf_X5_42 C hW k_x1 er_3 dX5_hasRightPass_12 (fun k_r_3 => ?_)
  refine lv_iload_n C.1 C.2.1 dX5_hasRightPass_15 rfl (lv_at hl 0 rfl) ?_
  obtain ⟨g_4, hE⟩ := gd_e hE
  refine y_bald C hW k_r_3 g_4 dX5_hasRightPass_16 ?_
  obtain ⟨v_5, ev_5, hE⟩ := nm_e2 hE
  refine x_nmI ev_5 ?_
  refine lv_istore (lv' := [(4, .int v_5), (3, .int o_2.1), (2, .int o_1.1), (0, .ref x0), (1, .ref x1)]) C.1 C.2.1 dX5_hasRightPass_17 hl (by decide) rfl (fun ls hl => ?_)
  refine lv_iload_n C.1 C.2.1 dX5_hasRightPass_19 rfl (lv_at hl 2 rfl) ?_
  refine lv_iconst (v := (2 : Int32)) C.1 C.2.1 dX5_hasRightPass_20 (by decide) ?_
  refine lv_icmp_lt (tgt := 55) C.1 C.2.1 dX5_hasRightPass_21 (by decide) (fun c_6 => ?_) (fun c_6 => ?_)
  · have hE := br_p hE c_6
    exact bX5_hasRightPass_55 C hkm hW hZ _ (lv_sub hl [] rfl) hE
  · have hE := br_n hE c_6
    refine lv_iload C.1 C.2.1 dX5_hasRightPass_24 (lv_at hl 0 rfl) ?_
    refine lv_iconst (v := (-1 : Int32)) C.1 C.2.1 dX5_hasRightPass_26 (by decide) ?_
    refine lv_icmp_eq (tgt := 55) C.1 C.2.1 dX5_hasRightPass_27 (by decide) (fun c_7 => ?_) (fun c_7 => ?_)
    · have hE := br_p hE c_7
      exact bX5_hasRightPass_55 C hkm hW hZ _ (lv_sub hl [] rfl) hE
    · have hE := br_n hE c_7
      refine lv_iload C.1 C.2.1 dX5_hasRightPass_30 (lv_at hl 0 rfl) ?_
      refine lv_iconst (v := (1 : Int32)) C.1 C.2.1 dX5_hasRightPass_32 (by decide) ?_
      refine lv_iand C.1 C.2.1 dX5_hasRightPass_33 ?_
      refine lv_aload_n C.1 C.2.1 dX5_hasRightPass_34 rfl (lv_at hl 4 rfl) ?_
      refine gf_X5_78 C hW k_x1 dX5_hasRightPass_35 ?_
      refine lv_icmp_eq (tgt := 55) C.1 C.2.1 dX5_hasRightPass_38 (by decide) (fun c_8 => ?_) (fun c_8 => ?_)
      · have hE := br_p hE c_8
        exact bX5_hasRightPass_55 C hkm hW hZ _ (lv_sub hl [] rfl) hE
      · have hE := br_n hE c_8
        refine lv_aload_n C.1 C.2.1 dX5_hasRightPass_41 rfl (lv_at hl 4 rfl) ?_
        refine gf_X5_150 C hW k_x1 dX5_hasRightPass_42 ?_
        refine lv_aload_n C.1 C.2.1 dX5_hasRightPass_45 rfl (lv_at hl 4 rfl) ?_
        obtain ⟨o_9, eo_9, hE⟩ := cl_e hE
        refine x_kJ (o := o_9) (z_runV (As := []) (rest := [.long (hJ o_2.2 x1 10)]) C (ct_X3_occupied l X k_x1 eo_9) cw_X5_138 hW hZ k_x1 (by decide) rfl rfl rfl hl.1 (Nat.le_of_ble_eq_true rfl) rfl dX5_hasRightPass_46 ⟨Nat.le_of_ble_eq_true rfl, Nat.le_of_ble_eq_true rfl⟩ ⟨Nat.le_refl _, Nat.le_refl _⟩) hZ (fun _ _ hW km hZ => ?_)
        replace hkm := hkm.tr km
        replace k_x0 := km.at k_x0 (by decide)
        replace k_x1 := km.at k_x1 (by decide)
        refine lv_land C.1 C.2.1 dX5_hasRightPass_49 ?_
        refine lv_lconst (v := (0 : Int64)) C.1 C.2.1 dX5_hasRightPass_50 (by decide) ?_
        refine W.lcmp C.1 C.2.1 dX5_hasRightPass_51 ?_
        refine lv_if_eq (tgt := 57) C.1 C.2.1 dX5_hasRightPass_52 (by decide) (fun c_10 => ?_) (fun c_10 => ?_)
        · have hE := br_p hE c_10
          refine lv_iconst (v := (0 : Int32)) C.1 C.2.1 dX5_hasRightPass_57 (by decide) ?_
          refine lv_istore (lv' := [(5, .int (0 : Int32)), (4, .int v_5), (3, .int o_2.1), (2, .int o_1.1), (0, .ref x0), (1, .ref x1)]) C.1 C.2.1 dX5_hasRightPass_58 hl (by decide) rfl (fun ls hl => ?_)
          exact bX5_hasRightPass_60 C F k_x0 k_x1 hkm hW hZ _ (lv_sub hl [4, 5, 3, 2, 1, 0] rfl) hE
        · have hE := br_n hE c_10
          exact bX5_hasRightPass_55 C hkm hW hZ _ (lv_sub hl [] rfl) hE
theorem m_229 : Cond.fieldLink RX5 57 (TX10 2).1 (TX10 2).2.1 (TX10 2).2.2.1 ∈ W0 := w0_in (List.mem_append_right _ (List.mem_of_getElem? (i := 229) (by decide +kernel))) rfl
theorem m_232 : Cond.fieldLink RX5 46 (TX10 4).1 (TX10 4).2.1 (TX10 4).2.2.1 ∈ W0 := w0_in (List.mem_append_right _ (List.mem_of_getElem? (i := 232) (by decide +kernel))) rfl
theorem n_1097 : Cond.fieldLinkNest RX5 37 "GameRules" "SQUARE_OF" "[I" "GameRules" ∈ tables_1 := List.mem_of_getElem? (i := 1097) (by decide +kernel)
theorem m_1098 : Cond.constantLong RX5 40 (285870213051386505 : Int64) ∈ W0 := w0_in (List.mem_append_right _ (List.mem_of_getElem? (i := 1098) (by decide +kernel))) rfl
section
variable {p : Program} {l : Launch} {e : Env} {R : Room} {s : State} {m : MethodId} {args : Array Value} {below : List Frame} {meth : Method} {c : Code} {H : Heap} {locs : List Loc} {cells slots : Nat} {Q : State → Prop}
variable {cc : ByteArray} {pc : Nat} {ls : Array Slot} {rest : List Value} {X : Ec} {h h1 : Hp} {nL : Nat} {rt : Option FieldType} {mn : String}
theorem gf_X5_57 {a r : Nat} (C : Cx X p s m args meth c RX5 cc nL rt mn) (hW : Wx X h H) (ha : hK h a = 10) (hr : hR h a 2 = some r) (hdg : decode cc pc = .ok (.getfield 57, 3)) (kk : hK h r = 18 → W p l e R s m args below meth c H locs cells slots Q (F0 m (pc + 3) ls (.ref r :: rest))) : W p l e R s m args below meth c H locs cells slots Q (F0 m pc ls (.ref a :: rest)) :=
  y_getr C hW ha i_X10 (by decide) rfl (by decide) m_229 rfl rfl hr hdg kk
theorem gf_X5_46 {a r : Nat} (C : Cx X p s m args meth c RX5 cc nL rt mn) (hW : Wx X h H) (ha : hK h a = 10) (hr : hR h a 4 = some r) (hdg : decode cc pc = .ok (.getfield 46, 3)) (kk : hK h r = 18 → W p l e R s m args below meth c H locs cells slots Q (F0 m (pc + 3) ls (.ref r :: rest))) : W p l e R s m args below meth c H locs cells slots Q (F0 m pc ls (.ref a :: rest)) :=
  y_getr C hW ha i_X10 (by decide) rfl (by decide) m_232 rfl rfl hr hdg kk
end
theorem dX5_isHit_0 : decode cX5_isHit 0 = .ok (.aload_n 1, 1) := by decide +kernel
theorem dX5_isHit_1 : decode cX5_isHit 1 = .ok (.getfield 33, 3) := by decide +kernel
theorem dX5_isHit_4 : decode cX5_isHit 4 = .ok (.iconst 0, 1) := by decide +kernel
theorem dX5_isHit_5 : decode cX5_isHit 5 = .ok (.laload, 1) := by decide +kernel
theorem dX5_isHit_6 : decode cX5_isHit 6 = .ok (.aload_n 1, 1) := by decide +kernel
theorem dX5_isHit_7 : decode cX5_isHit 7 = .ok (.getfield 33, 3) := by decide +kernel
theorem dX5_isHit_10 : decode cX5_isHit 10 = .ok (.iconst 1, 1) := by decide +kernel
theorem dX5_isHit_11 : decode cX5_isHit 11 = .ok (.laload, 1) := by decide +kernel
theorem dX5_isHit_12 : decode cX5_isHit 12 = .ok (.lor, 1) := by decide +kernel
theorem dX5_isHit_13 : decode cX5_isHit 13 = .ok (.lstore 4, 2) := by decide +kernel
theorem dX5_isHit_15 : decode cX5_isHit 15 = .ok (.aload_n 1, 1) := by decide +kernel
theorem dX5_isHit_16 : decode cX5_isHit 16 = .ok (.getfield 33, 3) := by decide +kernel
theorem dX5_isHit_19 : decode cX5_isHit 19 = .ok (.iload_n 3, 1) := by decide +kernel
theorem dX5_isHit_20 : decode cX5_isHit 20 = .ok (.laload, 1) := by decide +kernel
theorem dX5_isHit_21 : decode cX5_isHit 21 = .ok (.lstore 6, 2) := by decide +kernel
theorem dX5_isHit_23 : decode cX5_isHit 23 = .ok (.iconst 0, 1) := by decide +kernel
theorem dX5_isHit_24 : decode cX5_isHit 24 = .ok (.istore 8, 2) := by decide +kernel
theorem dX5_isHit_26 : decode cX5_isHit 26 = .ok (.iload 8, 2) := by decide +kernel
theorem dX5_isHit_28 : decode cX5_isHit 28 = .ok (.bipush 64, 2) := by decide +kernel
theorem dX5_isHit_30 : decode cX5_isHit 30 = .ok (.if_icmp .ge 225, 3) := by decide +kernel
theorem dX5_isHit_33 : decode cX5_isHit 33 = .ok (.lload 6, 2) := by decide +kernel
theorem dX5_isHit_35 : decode cX5_isHit 35 = .ok (.lconst 0, 1) := by decide +kernel
theorem dX5_isHit_36 : decode cX5_isHit 36 = .ok (.lcmp, 1) := by decide +kernel
theorem dX5_isHit_37 : decode cX5_isHit 37 = .ok (.ifCond .eq 218, 3) := by decide +kernel
theorem dX5_isHit_40 : decode cX5_isHit 40 = .ok (.lload 6, 2) := by decide +kernel
theorem dX5_isHit_42 : decode cX5_isHit 42 = .ok (.lload 6, 2) := by decide +kernel
theorem dX5_isHit_44 : decode cX5_isHit 44 = .ok (.lneg, 1) := by decide +kernel
theorem dX5_isHit_45 : decode cX5_isHit 45 = .ok (.land, 1) := by decide +kernel
theorem dX5_isHit_46 : decode cX5_isHit 46 = .ok (.lstore 9, 2) := by decide +kernel
theorem dX5_isHit_48 : decode cX5_isHit 48 = .ok (.lload 6, 2) := by decide +kernel
theorem dX5_isHit_50 : decode cX5_isHit 50 = .ok (.lload 9, 2) := by decide +kernel
theorem dX5_isHit_52 : decode cX5_isHit 52 = .ok (.lxor, 1) := by decide +kernel
theorem dX5_isHit_53 : decode cX5_isHit 53 = .ok (.lstore 6, 2) := by decide +kernel
theorem dX5_isHit_55 : decode cX5_isHit 55 = .ok (.getstatic 37, 3) := by decide +kernel
theorem dX5_isHit_58 : decode cX5_isHit 58 = .ok (.lload 9, 2) := by decide +kernel
theorem dX5_isHit_60 : decode cX5_isHit 60 = .ok (.ldc2_w 40, 3) := by decide +kernel
theorem dX5_isHit_63 : decode cX5_isHit 63 = .ok (.lmul, 1) := by decide +kernel
theorem dX5_isHit_64 : decode cX5_isHit 64 = .ok (.bipush 58, 2) := by decide +kernel
theorem dX5_isHit_66 : decode cX5_isHit 66 = .ok (.lushr, 1) := by decide +kernel
theorem dX5_isHit_67 : decode cX5_isHit 67 = .ok (.l2i, 1) := by decide +kernel
theorem dX5_isHit_68 : decode cX5_isHit 68 = .ok (.iaload, 1) := by decide +kernel
theorem dX5_isHit_69 : decode cX5_isHit 69 = .ok (.istore 11, 2) := by decide +kernel
theorem dX5_isHit_71 : decode cX5_isHit 71 = .ok (.aload_n 1, 1) := by decide +kernel
theorem dX5_isHit_72 : decode cX5_isHit 72 = .ok (.getfield 42, 3) := by decide +kernel
theorem dX5_isHit_75 : decode cX5_isHit 75 = .ok (.iload 11, 2) := by decide +kernel
theorem dX5_isHit_77 : decode cX5_isHit 77 = .ok (.baload, 1) := by decide +kernel
theorem dX5_isHit_78 : decode cX5_isHit 78 = .ok (.istore 12, 2) := by decide +kernel
theorem dX5_isHit_80 : decode cX5_isHit 80 = .ok (.aload_n 0, 1) := by decide +kernel
theorem dX5_isHit_81 : decode cX5_isHit 81 = .ok (.getfield 26, 3) := by decide +kernel
theorem dX5_isHit_84 : decode cX5_isHit 84 = .ok (.getfield 46, 3) := by decide +kernel
theorem dX5_isHit_87 : decode cX5_isHit 87 = .ok (.iload 12, 2) := by decide +kernel
theorem dX5_isHit_89 : decode cX5_isHit 89 = .ok (.bipush 64, 2) := by decide +kernel
theorem dX5_isHit_91 : decode cX5_isHit 91 = .ok (.imul, 1) := by decide +kernel
theorem dX5_isHit_92 : decode cX5_isHit 92 = .ok (.iload_n 2, 1) := by decide +kernel
theorem dX5_isHit_93 : decode cX5_isHit 93 = .ok (.iadd, 1) := by decide +kernel
theorem dX5_isHit_94 : decode cX5_isHit 94 = .ok (.laload, 1) := by decide +kernel
theorem dX5_isHit_95 : decode cX5_isHit 95 = .ok (.lload 9, 2) := by decide +kernel
theorem dX5_isHit_97 : decode cX5_isHit 97 = .ok (.land, 1) := by decide +kernel
theorem dX5_isHit_98 : decode cX5_isHit 98 = .ok (.lconst 0, 1) := by decide +kernel
theorem dX5_isHit_99 : decode cX5_isHit 99 = .ok (.lcmp, 1) := by decide +kernel
theorem dX5_isHit_100 : decode cX5_isHit 100 = .ok (.ifCond .ne 6, 3) := by decide +kernel
theorem dX5_isHit_103 : decode cX5_isHit 103 = .ok (.goto 146, 3) := by decide +kernel
theorem dX5_isHit_106 : decode cX5_isHit 106 = .ok (.iload 12, 2) := by decide +kernel
theorem dX5_isHit_108 : decode cX5_isHit 108 = .ok (.bipush 64, 2) := by decide +kernel
theorem dX5_isHit_110 : decode cX5_isHit 110 = .ok (.imul, 1) := by decide +kernel
theorem dX5_isHit_111 : decode cX5_isHit 111 = .ok (.iload 11, 2) := by decide +kernel
theorem dX5_isHit_113 : decode cX5_isHit 113 = .ok (.iadd, 1) := by decide +kernel
theorem dX5_isHit_114 : decode cX5_isHit 114 = .ok (.bipush 64, 2) := by decide +kernel
theorem dX5_isHit_116 : decode cX5_isHit 116 = .ok (.imul, 1) := by decide +kernel
theorem dX5_isHit_117 : decode cX5_isHit 117 = .ok (.iload_n 2, 1) := by decide +kernel
theorem dX5_isHit_118 : decode cX5_isHit 118 = .ok (.iadd, 1) := by decide +kernel
theorem dX5_isHit_119 : decode cX5_isHit 119 = .ok (.istore 13, 2) := by decide +kernel
theorem dX5_isHit_121 : decode cX5_isHit 121 = .ok (.aload_n 0, 1) := by decide +kernel
theorem dX5_isHit_122 : decode cX5_isHit 122 = .ok (.getfield 26, 3) := by decide +kernel
theorem dX5_isHit_125 : decode cX5_isHit 125 = .ok (.getfield 51, 3) := by decide +kernel
theorem dX5_isHit_128 : decode cX5_isHit 128 = .ok (.iload 13, 2) := by decide +kernel
theorem dX5_isHit_130 : decode cX5_isHit 130 = .ok (.iaload, 1) := by decide +kernel
theorem dX5_isHit_131 : decode cX5_isHit 131 = .ok (.istore 14, 2) := by decide +kernel
theorem dX5_isHit_133 : decode cX5_isHit 133 = .ok (.iload 14, 2) := by decide +kernel
theorem dX5_isHit_135 : decode cX5_isHit 135 = .ok (.aload_n 0, 1) := by decide +kernel
theorem dX5_isHit_136 : decode cX5_isHit 136 = .ok (.getfield 26, 3) := by decide +kernel
theorem dX5_isHit_139 : decode cX5_isHit 139 = .ok (.getfield 51, 3) := by decide +kernel
theorem dX5_isHit_142 : decode cX5_isHit 142 = .ok (.iload 13, 2) := by decide +kernel
theorem dX5_isHit_144 : decode cX5_isHit 144 = .ok (.iconst 1, 1) := by decide +kernel
theorem dX5_isHit_145 : decode cX5_isHit 145 = .ok (.iadd, 1) := by decide +kernel
theorem dX5_isHit_146 : decode cX5_isHit 146 = .ok (.iaload, 1) := by decide +kernel
theorem dX5_isHit_147 : decode cX5_isHit 147 = .ok (.if_icmp .ge 102, 3) := by decide +kernel
theorem dX5_isHit_150 : decode cX5_isHit 150 = .ok (.aload_n 0, 1) := by decide +kernel
theorem dX5_isHit_151 : decode cX5_isHit 151 = .ok (.getfield 26, 3) := by decide +kernel
theorem dX5_isHit_154 : decode cX5_isHit 154 = .ok (.getfield 54, 3) := by decide +kernel
theorem dX5_isHit_157 : decode cX5_isHit 157 = .ok (.iload 14, 2) := by decide +kernel
theorem dX5_isHit_159 : decode cX5_isHit 159 = .ok (.iaload, 1) := by decide +kernel
theorem dX5_isHit_160 : decode cX5_isHit 160 = .ok (.bipush 6, 2) := by decide +kernel
theorem dX5_isHit_162 : decode cX5_isHit 162 = .ok (.ishr, 1) := by decide +kernel
theorem dX5_isHit_163 : decode cX5_isHit 163 = .ok (.istore 15, 2) := by decide +kernel
theorem dX5_isHit_165 : decode cX5_isHit 165 = .ok (.aload_n 0, 1) := by decide +kernel
theorem dX5_isHit_166 : decode cX5_isHit 166 = .ok (.getfield 26, 3) := by decide +kernel
theorem dX5_isHit_169 : decode cX5_isHit 169 = .ok (.getfield 57, 3) := by decide +kernel
theorem dX5_isHit_172 : decode cX5_isHit 172 = .ok (.iload 14, 2) := by decide +kernel
theorem dX5_isHit_174 : decode cX5_isHit 174 = .ok (.laload, 1) := by decide +kernel
theorem dX5_isHit_175 : decode cX5_isHit 175 = .ok (.lload 4, 2) := by decide +kernel
theorem dX5_isHit_177 : decode cX5_isHit 177 = .ok (.land, 1) := by decide +kernel
theorem dX5_isHit_178 : decode cX5_isHit 178 = .ok (.lstore 16, 2) := by decide +kernel
theorem dX5_isHit_180 : decode cX5_isHit 180 = .ok (.iload 15, 2) := by decide +kernel
theorem dX5_isHit_182 : decode cX5_isHit 182 = .ok (.bipush 8, 2) := by decide +kernel
theorem dX5_isHit_184 : decode cX5_isHit 184 = .ok (.iand, 1) := by decide +kernel
theorem dX5_isHit_185 : decode cX5_isHit 185 = .ok (.ifCond .ne 18, 3) := by decide +kernel
theorem dX5_isHit_188 : decode cX5_isHit 188 = .ok (.lload 16, 2) := by decide +kernel
theorem dX5_isHit_190 : decode cX5_isHit 190 = .ok (.lconst 0, 1) := by decide +kernel
theorem dX5_isHit_191 : decode cX5_isHit 191 = .ok (.lcmp, 1) := by decide +kernel
theorem dX5_isHit_192 : decode cX5_isHit 192 = .ok (.ifCond .ne 7, 3) := by decide +kernel
theorem dX5_isHit_195 : decode cX5_isHit 195 = .ok (.iconst 1, 1) := by decide +kernel
theorem dX5_isHit_196 : decode cX5_isHit 196 = .ok (.goto 31, 3) := by decide +kernel
theorem dX5_isHit_199 : decode cX5_isHit 199 = .ok (.iconst 0, 1) := by decide +kernel
theorem dX5_isHit_200 : decode cX5_isHit 200 = .ok (.goto 27, 3) := by decide +kernel
theorem dX5_isHit_203 : decode cX5_isHit 203 = .ok (.lload 16, 2) := by decide +kernel
theorem dX5_isHit_205 : decode cX5_isHit 205 = .ok (.lconst 0, 1) := by decide +kernel
theorem dX5_isHit_206 : decode cX5_isHit 206 = .ok (.lcmp, 1) := by decide +kernel
theorem dX5_isHit_207 : decode cX5_isHit 207 = .ok (.ifCond .eq 19, 3) := by decide +kernel
theorem dX5_isHit_210 : decode cX5_isHit 210 = .ok (.lload 16, 2) := by decide +kernel
theorem dX5_isHit_212 : decode cX5_isHit 212 = .ok (.lload 16, 2) := by decide +kernel
theorem dX5_isHit_214 : decode cX5_isHit 214 = .ok (.lconst 1, 1) := by decide +kernel
theorem dX5_isHit_215 : decode cX5_isHit 215 = .ok (.lsub, 1) := by decide +kernel
theorem dX5_isHit_216 : decode cX5_isHit 216 = .ok (.land, 1) := by decide +kernel
theorem dX5_isHit_217 : decode cX5_isHit 217 = .ok (.lconst 0, 1) := by decide +kernel
theorem dX5_isHit_218 : decode cX5_isHit 218 = .ok (.lcmp, 1) := by decide +kernel
theorem dX5_isHit_219 : decode cX5_isHit 219 = .ok (.ifCond .ne 7, 3) := by decide +kernel
theorem dX5_isHit_222 : decode cX5_isHit 222 = .ok (.iconst 1, 1) := by decide +kernel
theorem dX5_isHit_223 : decode cX5_isHit 223 = .ok (.goto 4, 3) := by decide +kernel
theorem dX5_isHit_226 : decode cX5_isHit 226 = .ok (.iconst 0, 1) := by decide +kernel
theorem dX5_isHit_227 : decode cX5_isHit 227 = .ok (.istore 18, 2) := by decide +kernel
theorem dX5_isHit_229 : decode cX5_isHit 229 = .ok (.iload 18, 2) := by decide +kernel
theorem dX5_isHit_231 : decode cX5_isHit 231 = .ok (.ifCond .eq 12, 3) := by decide +kernel
theorem dX5_isHit_234 : decode cX5_isHit 234 = .ok (.iload 15, 2) := by decide +kernel
theorem dX5_isHit_236 : decode cX5_isHit 236 = .ok (.iconst 1, 1) := by decide +kernel
theorem dX5_isHit_237 : decode cX5_isHit 237 = .ok (.iand, 1) := by decide +kernel
theorem dX5_isHit_238 : decode cX5_isHit 238 = .ok (.ifCond .ne 5, 3) := by decide +kernel
theorem dX5_isHit_241 : decode cX5_isHit 241 = .ok (.iconst 1, 1) := by decide +kernel
theorem dX5_isHit_242 : decode cX5_isHit 242 = .ok (.ireturn, 1) := by decide +kernel
theorem dX5_isHit_243 : decode cX5_isHit 243 = .ok (.iinc 14 1, 3) := by decide +kernel
theorem dX5_isHit_246 : decode cX5_isHit 246 = .ok (.goto (-113), 3) := by decide +kernel
theorem dX5_isHit_249 : decode cX5_isHit 249 = .ok (.iinc 8 1, 3) := by decide +kernel
theorem dX5_isHit_252 : decode cX5_isHit 252 = .ok (.goto (-226), 3) := by decide +kernel
theorem dX5_isHit_255 : decode cX5_isHit 255 = .ok (.iconst 0, 1) := by decide +kernel
theorem dX5_isHit_256 : decode cX5_isHit 256 = .ok (.ireturn, 1) := by decide +kernel
def sX5_isHit_255 (F : Nat) (h : Hp) : Option (Int32 × Hp) := some ((0 : Int32), h)
def sX5_isHit_249 (F : Nat) (k_26 : Hp → Nat → Nat → Int32 → Int64 → Int64 → Int32 → Option (Int32 × Hp)) (h : Hp) (x0 : Nat) (x1 : Nat) (x2 : Int32) (x4 : Int64) (x6 : Int64) (x8 : Int32) : Option (Int32 × Hp) := nm (x8 + (1 : Int32)) fun v_1 => k_26 h x0 x1 x2 x4 x6 v_1
def sX5_isHit_243 (F : Nat) (k_26 : Hp → Nat → Nat → Int32 → Int64 → Int64 → Int32 → Option (Int32 × Hp)) (k_133 : Hp → Nat → Nat → Int32 → Int64 → Int64 → Int32 → Int32 → Int32 → Option (Int32 × Hp)) (h : Hp) (x0 : Nat) (x1 : Nat) (x2 : Int32) (x4 : Int64) (x6 : Int64) (x8 : Int32) (x13 : Int32) (x14 : Int32) : Option (Int32 × Hp) := nm (x14 + (1 : Int32)) fun v_1 => k_133 h x0 x1 x2 x4 x6 x8 x13 v_1
def sX5_isHit_227 (F : Nat) (k_26 : Hp → Nat → Nat → Int32 → Int64 → Int64 → Int32 → Option (Int32 × Hp)) (k_133 : Hp → Nat → Nat → Int32 → Int64 → Int64 → Int32 → Int32 → Int32 → Option (Int32 × Hp)) (h : Hp) (x0 : Nat) (x1 : Nat) (x2 : Int32) (x4 : Int64) (x6 : Int64) (x8 : Int32) (x13 : Int32) (x14 : Int32) (x15 : Int32) (t0 : Int32) : Option (Int32 × Hp) := br (t0 = 0) (sX5_isHit_243 F k_26 k_133 h x0 x1 x2 x4 x6 x8 x13 x14) (br ((x15 &&& (1 : Int32)) = 0) (some ((1 : Int32), h)) (sX5_isHit_243 F k_26 k_133 h x0 x1 x2 x4 x6 x8 x13 x14))
def sX5_isHit_226 (F : Nat) (k_26 : Hp → Nat → Nat → Int32 → Int64 → Int64 → Int32 → Option (Int32 × Hp)) (k_133 : Hp → Nat → Nat → Int32 → Int64 → Int64 → Int32 → Int32 → Int32 → Option (Int32 × Hp)) (h : Hp) (x0 : Nat) (x1 : Nat) (x2 : Int32) (x4 : Int64) (x6 : Int64) (x8 : Int32) (x13 : Int32) (x14 : Int32) (x15 : Int32) : Option (Int32 × Hp) := sX5_isHit_227 F k_26 k_133 h x0 x1 x2 x4 x6 x8 x13 x14 x15 (0 : Int32)
def sX5_isHit_133 (F : Nat) (k_26 : Hp → Nat → Nat → Int32 → Int64 → Int64 → Int32 → Option (Int32 × Hp)) : Nat → Hp → Nat → Nat → Int32 → Int64 → Int64 → Int32 → Int32 → Int32 → Option (Int32 × Hp)
  | 0, _, _, _, _, _, _, _, _, _ => none
  | f + 1, h, x0, x1, x2, x4, x6, x8, x13, x14 => cl (hR h x0 1) fun r_1 => cl (hR h r_1 0) fun r_2 => gd (inB (x13 + (1 : Int32)) (hN h r_2)) <| br ((hI h r_2 (x13 + (1 : Int32)).toNatClampNeg) ≤ x14) (sX5_isHit_249 F k_26 h x0 x1 x2 x4 x6 x8) (cl (hR h x0 1) fun r_5 => cl (hR h r_5 1) fun r_6 => gd (inB x14 (hN h r_6)) <| nm ((hI h r_6 x14.toNatClampNeg) >>> ((6 : Int32) &&& 31)) fun v_8 => cl (hR h x0 1) fun r_9 => cl (hR h r_9 2) fun r_10 => gd (inB x14 (hN h r_10)) <| nm ((hJ h r_10 x14.toNatClampNeg) &&& x4) fun v_12 => br ((v_8 &&& (8 : Int32)) = 0) (br ((lg_cmp v_12 (0 : Int64)) = 0) (sX5_isHit_227 F k_26 (sX5_isHit_133 F k_26 f) h x0 x1 x2 x4 x6 x8 x13 x14 v_8 (1 : Int32)) (sX5_isHit_227 F k_26 (sX5_isHit_133 F k_26 f) h x0 x1 x2 x4 x6 x8 x13 x14 v_8 (0 : Int32))) (br ((lg_cmp v_12 (0 : Int64)) = 0) (sX5_isHit_226 F k_26 (sX5_isHit_133 F k_26 f) h x0 x1 x2 x4 x6 x8 x13 x14 v_8) (br ((lg_cmp (v_12 &&& (v_12 - (1 : Int64))) (0 : Int64)) = 0) (sX5_isHit_227 F k_26 (sX5_isHit_133 F k_26 f) h x0 x1 x2 x4 x6 x8 x13 x14 v_8 (1 : Int32)) (sX5_isHit_226 F k_26 (sX5_isHit_133 F k_26 f) h x0 x1 x2 x4 x6 x8 x13 x14 v_8))))
def sX5_isHit_26 (F : Nat) : Nat → Hp → Nat → Nat → Int32 → Int64 → Int64 → Int32 → Option (Int32 × Hp)
  | 0, _, _, _, _, _, _, _ => none
  | f + 1, h, x0, x1, x2, x4, x6, x8 => br ((64 : Int32) ≤ x8) (sX5_isHit_255 F h ) (br ((lg_cmp x6 (0 : Int64)) = 0) (sX5_isHit_255 F h ) (nm (x6 &&& (-x6)) fun v_3 => nm (x6 ^^^ v_3) fun v_4 => gd (inB ((((v_3 * (285870213051386505 : Int64)).toUInt64 >>> ((58 : Int32).toInt64.toUInt64 &&& Int64.toUInt64 63)).toInt64).toInt32) 64) <| nm (sqT.getD ((((v_3 * (285870213051386505 : Int64)).toUInt64 >>> ((58 : Int32).toInt64.toUInt64 &&& Int64.toUInt64 63)).toInt64).toInt32).toNatClampNeg 0) fun v_6 => cl (hR h x1 0) fun r_7 => gd (inB v_6 (hN h r_7)) <| nm (hI h r_7 v_6.toNatClampNeg) fun v_9 => cl (hR h x0 1) fun r_10 => cl (hR h r_10 4) fun r_11 => gd (inB ((v_9 * (64 : Int32)) + x2) (hN h r_11)) <| br ((lg_cmp ((hJ h r_11 ((v_9 * (64 : Int32)) + x2).toNatClampNeg) &&& v_3) (0 : Int64)) = 0) (sX5_isHit_249 F (sX5_isHit_26 F f) h x0 x1 x2 x4 v_4 x8) (nm ((((v_9 * (64 : Int32)) + v_6) * (64 : Int32)) + x2) fun v_14 => cl (hR h x0 1) fun r_15 => cl (hR h r_15 0) fun r_16 => gd (inB v_14 (hN h r_16)) <| nm (hI h r_16 v_14.toNatClampNeg) fun v_18 => sX5_isHit_133 F (sX5_isHit_26 F f) F h x0 x1 x2 x4 v_4 x8 v_14 v_18)))
def sX5_isHit (F : Nat) (h : Hp) (x0 : Nat) (x1 : Nat) (x2 : Int32) (x3 : Int32) : Option (Int32 × Hp) := cl (hR h x1 1) fun r_1 => gd (inB (0 : Int32) (hN h r_1)) <| cl (hR h x1 1) fun r_3 => gd (inB (1 : Int32) (hN h r_3)) <| nm ((hJ h r_1 (0 : Int32).toNatClampNeg) ||| (hJ h r_3 (1 : Int32).toNatClampNeg)) fun v_5 => cl (hR h x1 1) fun r_6 => gd (inB x3 (hN h r_6)) <| nm (hJ h r_6 x3.toNatClampNeg) fun v_8 => sX5_isHit_26 F F h x0 x1 x2 v_5 v_8 (0 : Int32)
set_option maxRecDepth 20000 in
theorem moX5_isHit_255 {o : Int32 × Hp} {F : Nat} {h : Hp} (hE : sX5_isHit_255 F h  = some o) : Le h o.2 := by
  cases hE
  exact Le.rf _
set_option maxRecDepth 20000 in
theorem moX5_isHit_249 {o : Int32 × Hp} {k_26 : Hp → Nat → Nat → Int32 → Int64 → Int64 → Int32 → Option (Int32 × Hp)} {F : Nat} (mk_26 : ∀ (h : Hp) (x0 : Nat) (x1 : Nat) (x2 : Int32) (x4 : Int64) (x6 : Int64) (x8 : Int32), k_26 h x0 x1 x2 x4 x6 x8 = some o → Le h o.2) {h : Hp} {x0 : Nat} {x1 : Nat} {x2 : Int32} {x4 : Int64} {x6 : Int64} {x8 : Int32} (hE : sX5_isHit_249 F k_26 h x0 x1 x2 x4 x6 x8 = some o) : Le h o.2 := by
  obtain ⟨v_1, ev_1, hE⟩ := nm_e2 hE
  exact mk_26 _ _ _ _ _ _ _ hE
set_option maxRecDepth 20000 in
theorem moX5_isHit_243 {o : Int32 × Hp} {k_26 : Hp → Nat → Nat → Int32 → Int64 → Int64 → Int32 → Option (Int32 × Hp)} {k_133 : Hp → Nat → Nat → Int32 → Int64 → Int64 → Int32 → Int32 → Int32 → Option (Int32 × Hp)} {F : Nat} (mk_26 : ∀ (h : Hp) (x0 : Nat) (x1 : Nat) (x2 : Int32) (x4 : Int64) (x6 : Int64) (x8 : Int32), k_26 h x0 x1 x2 x4 x6 x8 = some o → Le h o.2) (mk_133 : ∀ (h : Hp) (x0 : Nat) (x1 : Nat) (x2 : Int32) (x4 : Int64) (x6 : Int64) (x8 : Int32) (x13 : Int32) (x14 : Int32), k_133 h x0 x1 x2 x4 x6 x8 x13 x14 = some o → Le h o.2) {h : Hp} {x0 : Nat} {x1 : Nat} {x2 : Int32} {x4 : Int64} {x6 : Int64} {x8 : Int32} {x13 : Int32} {x14 : Int32} (hE : sX5_isHit_243 F k_26 k_133 h x0 x1 x2 x4 x6 x8 x13 x14 = some o) : Le h o.2 := by
  obtain ⟨v_1, ev_1, hE⟩ := nm_e2 hE
  exact mk_133 _ _ _ _ _ _ _ _ _ hE
set_option maxRecDepth 20000 in
theorem moX5_isHit_227 {o : Int32 × Hp} {k_26 : Hp → Nat → Nat → Int32 → Int64 → Int64 → Int32 → Option (Int32 × Hp)} {k_133 : Hp → Nat → Nat → Int32 → Int64 → Int64 → Int32 → Int32 → Int32 → Option (Int32 × Hp)} {F : Nat} (mk_26 : ∀ (h : Hp) (x0 : Nat) (x1 : Nat) (x2 : Int32) (x4 : Int64) (x6 : Int64) (x8 : Int32), k_26 h x0 x1 x2 x4 x6 x8 = some o → Le h o.2) (mk_133 : ∀ (h : Hp) (x0 : Nat) (x1 : Nat) (x2 : Int32) (x4 : Int64) (x6 : Int64) (x8 : Int32) (x13 : Int32) (x14 : Int32), k_133 h x0 x1 x2 x4 x6 x8 x13 x14 = some o → Le h o.2) {h : Hp} {x0 : Nat} {x1 : Nat} {x2 : Int32} {x4 : Int64} {x6 : Int64} {x8 : Int32} {x13 : Int32} {x14 : Int32} {x15 : Int32} {t0 : Int32} (hE : sX5_isHit_227 F k_26 k_133 h x0 x1 x2 x4 x6 x8 x13 x14 x15 t0 = some o) : Le h o.2 := by
  rcases br_e hE with ⟨_, hE⟩ | ⟨_, hE⟩
  · exact moX5_isHit_243 mk_26 mk_133 hE
  · rcases br_e hE with ⟨_, hE⟩ | ⟨_, hE⟩
    · cases hE
      exact Le.rf _
    · exact moX5_isHit_243 mk_26 mk_133 hE
set_option maxRecDepth 20000 in
theorem moX5_isHit_226 {o : Int32 × Hp} {k_26 : Hp → Nat → Nat → Int32 → Int64 → Int64 → Int32 → Option (Int32 × Hp)} {k_133 : Hp → Nat → Nat → Int32 → Int64 → Int64 → Int32 → Int32 → Int32 → Option (Int32 × Hp)} {F : Nat} (mk_26 : ∀ (h : Hp) (x0 : Nat) (x1 : Nat) (x2 : Int32) (x4 : Int64) (x6 : Int64) (x8 : Int32), k_26 h x0 x1 x2 x4 x6 x8 = some o → Le h o.2) (mk_133 : ∀ (h : Hp) (x0 : Nat) (x1 : Nat) (x2 : Int32) (x4 : Int64) (x6 : Int64) (x8 : Int32) (x13 : Int32) (x14 : Int32), k_133 h x0 x1 x2 x4 x6 x8 x13 x14 = some o → Le h o.2) {h : Hp} {x0 : Nat} {x1 : Nat} {x2 : Int32} {x4 : Int64} {x6 : Int64} {x8 : Int32} {x13 : Int32} {x14 : Int32} {x15 : Int32} (hE : sX5_isHit_226 F k_26 k_133 h x0 x1 x2 x4 x6 x8 x13 x14 x15 = some o) : Le h o.2 := by
  exact moX5_isHit_227 mk_26 mk_133 hE
set_option maxRecDepth 20000 in
theorem moX5_isHit_133 {o : Int32 × Hp} {k_26 : Hp → Nat → Nat → Int32 → Int64 → Int64 → Int32 → Option (Int32 × Hp)} {F : Nat} (mk_26 : ∀ (h : Hp) (x0 : Nat) (x1 : Nat) (x2 : Int32) (x4 : Int64) (x6 : Int64) (x8 : Int32), k_26 h x0 x1 x2 x4 x6 x8 = some o → Le h o.2) : ∀ (f : Nat) {h : Hp} {x0 : Nat} {x1 : Nat} {x2 : Int32} {x4 : Int64} {x6 : Int64} {x8 : Int32} {x13 : Int32} {x14 : Int32}, sX5_isHit_133 F k_26 f h x0 x1 x2 x4 x6 x8 x13 x14 = some o → Le h o.2 := by
  intro f
  induction f with
  | zero =>
    intro h x0 x1 x2 x4 x6 x8 x13 x14 hE
    rw [sX5_isHit_133] at hE
    cases hE
  | succ f ih =>
    intro h x0 x1 x2 x4 x6 x8 x13 x14 hE
    rw [sX5_isHit_133] at hE
    have mk_133 : ∀ (h : Hp) (x0 : Nat) (x1 : Nat) (x2 : Int32) (x4 : Int64) (x6 : Int64) (x8 : Int32) (x13 : Int32) (x14 : Int32), sX5_isHit_133 F k_26 f h x0 x1 x2 x4 x6 x8 x13 x14 = some o → Le h o.2 := fun h x0 x1 x2 x4 x6 x8 x13 x14 hE => ih hE
    obtain ⟨r_1, er_1, hE⟩ := cl_e hE
    obtain ⟨r_2, er_2, hE⟩ := cl_e hE
    obtain ⟨g_3, hE⟩ := gd_e hE
    rcases br_e hE with ⟨_, hE⟩ | ⟨_, hE⟩
    · exact moX5_isHit_249 mk_26 hE
    · obtain ⟨r_5, er_5, hE⟩ := cl_e hE
      obtain ⟨r_6, er_6, hE⟩ := cl_e hE
      obtain ⟨g_7, hE⟩ := gd_e hE
      obtain ⟨v_8, ev_8, hE⟩ := nm_e2 hE
      obtain ⟨r_9, er_9, hE⟩ := cl_e hE
      obtain ⟨r_10, er_10, hE⟩ := cl_e hE
      obtain ⟨g_11, hE⟩ := gd_e hE
      obtain ⟨v_12, ev_12, hE⟩ := nm_e2 hE
      rcases br_e hE with ⟨_, hE⟩ | ⟨_, hE⟩
      · rcases br_e hE with ⟨_, hE⟩ | ⟨_, hE⟩
        · exact moX5_isHit_227 mk_26 mk_133 hE
        · exact moX5_isHit_227 mk_26 mk_133 hE
      · rcases br_e hE with ⟨_, hE⟩ | ⟨_, hE⟩
        · exact moX5_isHit_226 mk_26 mk_133 hE
        · rcases br_e hE with ⟨_, hE⟩ | ⟨_, hE⟩
          · exact moX5_isHit_227 mk_26 mk_133 hE
          · exact moX5_isHit_226 mk_26 mk_133 hE
set_option maxRecDepth 20000 in
theorem moX5_isHit_26 {o : Int32 × Hp} {F : Nat} : ∀ (f : Nat) {h : Hp} {x0 : Nat} {x1 : Nat} {x2 : Int32} {x4 : Int64} {x6 : Int64} {x8 : Int32}, sX5_isHit_26 F f h x0 x1 x2 x4 x6 x8 = some o → Le h o.2 := by
  intro f
  induction f with
  | zero =>
    intro h x0 x1 x2 x4 x6 x8 hE
    rw [sX5_isHit_26] at hE
    cases hE
  | succ f ih =>
    intro h x0 x1 x2 x4 x6 x8 hE
    rw [sX5_isHit_26] at hE
    have mk_26 : ∀ (h : Hp) (x0 : Nat) (x1 : Nat) (x2 : Int32) (x4 : Int64) (x6 : Int64) (x8 : Int32), sX5_isHit_26 F f h x0 x1 x2 x4 x6 x8 = some o → Le h o.2 := fun h x0 x1 x2 x4 x6 x8 hE => ih hE
    rcases br_e hE with ⟨_, hE⟩ | ⟨_, hE⟩
    · exact moX5_isHit_255 hE
    · rcases br_e hE with ⟨_, hE⟩ | ⟨_, hE⟩
      · exact moX5_isHit_255 hE
      · obtain ⟨v_3, ev_3, hE⟩ := nm_e2 hE
        obtain ⟨v_4, ev_4, hE⟩ := nm_e2 hE
        obtain ⟨g_5, hE⟩ := gd_e hE
        obtain ⟨v_6, ev_6, hE⟩ := nm_e2 hE
        obtain ⟨r_7, er_7, hE⟩ := cl_e hE
        obtain ⟨g_8, hE⟩ := gd_e hE
        obtain ⟨v_9, ev_9, hE⟩ := nm_e2 hE
        obtain ⟨r_10, er_10, hE⟩ := cl_e hE
        obtain ⟨r_11, er_11, hE⟩ := cl_e hE
        obtain ⟨g_12, hE⟩ := gd_e hE
        rcases br_e hE with ⟨_, hE⟩ | ⟨_, hE⟩
        · exact moX5_isHit_249 mk_26 hE
        · obtain ⟨v_14, ev_14, hE⟩ := nm_e2 hE
          obtain ⟨r_15, er_15, hE⟩ := cl_e hE
          obtain ⟨r_16, er_16, hE⟩ := cl_e hE
          obtain ⟨g_17, hE⟩ := gd_e hE
          obtain ⟨v_18, ev_18, hE⟩ := nm_e2 hE
          exact moX5_isHit_133 mk_26 _ hE
set_option maxRecDepth 20000 in
theorem moX5_isHit {o : Int32 × Hp} {F : Nat} {h : Hp} {x0 : Nat} {x1 : Nat} {x2 : Int32} {x3 : Int32} (hE : sX5_isHit F h x0 x1 x2 x3 = some o) : Le h o.2 := by
  obtain ⟨r_1, er_1, hE⟩ := cl_e hE
  obtain ⟨g_2, hE⟩ := gd_e hE
  obtain ⟨r_3, er_3, hE⟩ := cl_e hE
  obtain ⟨g_4, hE⟩ := gd_e hE
  obtain ⟨v_5, ev_5, hE⟩ := nm_e2 hE
  obtain ⟨r_6, er_6, hE⟩ := cl_e hE
  obtain ⟨g_7, hE⟩ := gd_e hE
  obtain ⟨v_8, ev_8, hE⟩ := nm_e2 hE
  exact moX5_isHit_26 _ hE
set_option maxRecDepth 20000 in
theorem bX5_isHit_255 {p : Program} {l : Launch} {e : Env} {s : State} {m : MethodId} {args : Array Value} {below : List Frame} {meth : Method} {c : Code} {X : Ec} {h0 : Hp} {o : Int32 × Hp} {F : Nat} (C : Cx X p s m args meth c RX5 cX5_isHit 19 (some .boolean) "isHit") {h : Hp} {H : Heap} {locs : List Loc} (hkm : Km h0 h) (hW : Wx X h H) (hZ : va_S (aA (eB X)) s.heap H locs) (ls : Array Slot) (hl : lv_has ls 19 []) (hE : sX5_isHit_255 F h  = some o) : W p l e (rm 0 0) s m args below meth c H locs 0 0 (MQ below (QI X h0 o.1 o.2) args s 0 0 (aA (eB X))) (F0 m 255 ls []) := by
  refine lv_iconst (v := (0 : Int32)) C.1 C.2.1 dX5_isHit_255 (by decide) ?_
  exact x_iret C rfl (by decide) hW hZ hkm hE dX5_isHit_256
set_option maxRecDepth 20000 in
theorem bX5_isHit_249 {p : Program} {l : Launch} {e : Env} {s : State} {m : MethodId} {args : Array Value} {below : List Frame} {meth : Method} {c : Code} {X : Ec} {h0 : Hp} {o : Int32 × Hp} {k_26 : Hp → Nat → Nat → Int32 → Int64 → Int64 → Int32 → Option (Int32 × Hp)} {F : Nat} (C : Cx X p s m args meth c RX5 cX5_isHit 19 (some .boolean) "isHit") (hk_26 : ∀ (h : Hp) (x0 : Nat) (x1 : Nat) (x2 : Int32) (x4 : Int64) (x6 : Int64) (x8 : Int32) (H : Heap) (locs : List Loc), hK h x0 = 5 → hK h x1 = 3 → Km h0 h → Wx X h H → va_S (aA (eB X)) s.heap H locs → ∀ (ls : Array Slot), lv_has ls 19 [(0, .ref x0), (1, .ref x1), (2, .int x2), (4, .long x4), (6, .long x6), (8, .int x8)] → k_26 h x0 x1 x2 x4 x6 x8 = some o → W p l e (rm 0 0) s m args below meth c H locs 0 0 (MQ below (QI X h0 o.1 o.2) args s 0 0 (aA (eB X))) (F0 m 26 ls [])) {h : Hp} {x0 : Nat} {x1 : Nat} {x2 : Int32} {x4 : Int64} {x6 : Int64} {x8 : Int32} {H : Heap} {locs : List Loc} (k_x0 : hK h x0 = 5) (k_x1 : hK h x1 = 3) (hkm : Km h0 h) (hW : Wx X h H) (hZ : va_S (aA (eB X)) s.heap H locs) (ls : Array Slot) (hl : lv_has ls 19 [(0, .ref x0), (1, .ref x1), (2, .int x2), (4, .long x4), (6, .long x6), (8, .int x8)]) (hE : sX5_isHit_249 F k_26 h x0 x1 x2 x4 x6 x8 = some o) : W p l e (rm 0 0) s m args below meth c H locs 0 0 (MQ below (QI X h0 o.1 o.2) args s 0 0 (aA (eB X))) (F0 m 249 ls []) := by
  obtain ⟨v_1, ev_1, hE⟩ := nm_e2 hE
  refine lv_iinc (v := v_1) (lv' := [(8, .int v_1), (0, .ref x0), (1, .ref x1), (2, .int x2), (4, .long x4), (6, .long x6)]) C.1 C.2.1 dX5_isHit_249 hl (k := 5) rfl (by rw [ev_1]; rfl) (by decide) rfl (fun ls hl => ?_)
  refine lv_goto (tgt := 26) C.1 C.2.1 dX5_isHit_252 (by decide) ?_
  exact hk_26 _ _ _ _ _ _ _ _ _ k_x0 k_x1 hkm hW hZ _ (lv_sub hl [1, 2, 3, 4, 5, 0] rfl) hE
set_option maxRecDepth 20000 in
theorem bX5_isHit_243 {p : Program} {l : Launch} {e : Env} {s : State} {m : MethodId} {args : Array Value} {below : List Frame} {meth : Method} {c : Code} {X : Ec} {h0 : Hp} {o : Int32 × Hp} {k_26 : Hp → Nat → Nat → Int32 → Int64 → Int64 → Int32 → Option (Int32 × Hp)} {k_133 : Hp → Nat → Nat → Int32 → Int64 → Int64 → Int32 → Int32 → Int32 → Option (Int32 × Hp)} {F : Nat} (C : Cx X p s m args meth c RX5 cX5_isHit 19 (some .boolean) "isHit") (hk_26 : ∀ (h : Hp) (x0 : Nat) (x1 : Nat) (x2 : Int32) (x4 : Int64) (x6 : Int64) (x8 : Int32) (H : Heap) (locs : List Loc), hK h x0 = 5 → hK h x1 = 3 → Km h0 h → Wx X h H → va_S (aA (eB X)) s.heap H locs → ∀ (ls : Array Slot), lv_has ls 19 [(0, .ref x0), (1, .ref x1), (2, .int x2), (4, .long x4), (6, .long x6), (8, .int x8)] → k_26 h x0 x1 x2 x4 x6 x8 = some o → W p l e (rm 0 0) s m args below meth c H locs 0 0 (MQ below (QI X h0 o.1 o.2) args s 0 0 (aA (eB X))) (F0 m 26 ls [])) (hk_133 : ∀ (h : Hp) (x0 : Nat) (x1 : Nat) (x2 : Int32) (x4 : Int64) (x6 : Int64) (x8 : Int32) (x13 : Int32) (x14 : Int32) (H : Heap) (locs : List Loc), hK h x0 = 5 → hK h x1 = 3 → Km h0 h → Wx X h H → va_S (aA (eB X)) s.heap H locs → ∀ (ls : Array Slot), lv_has ls 19 [(0, .ref x0), (1, .ref x1), (2, .int x2), (4, .long x4), (6, .long x6), (8, .int x8), (13, .int x13), (14, .int x14)] → k_133 h x0 x1 x2 x4 x6 x8 x13 x14 = some o → W p l e (rm 0 0) s m args below meth c H locs 0 0 (MQ below (QI X h0 o.1 o.2) args s 0 0 (aA (eB X))) (F0 m 133 ls [])) {h : Hp} {x0 : Nat} {x1 : Nat} {x2 : Int32} {x4 : Int64} {x6 : Int64} {x8 : Int32} {x13 : Int32} {x14 : Int32} {H : Heap} {locs : List Loc} (k_x0 : hK h x0 = 5) (k_x1 : hK h x1 = 3) (hkm : Km h0 h) (hW : Wx X h H) (hZ : va_S (aA (eB X)) s.heap H locs) (ls : Array Slot) (hl : lv_has ls 19 [(0, .ref x0), (1, .ref x1), (2, .int x2), (4, .long x4), (6, .long x6), (8, .int x8), (13, .int x13), (14, .int x14)]) (hE : sX5_isHit_243 F k_26 k_133 h x0 x1 x2 x4 x6 x8 x13 x14 = some o) : W p l e (rm 0 0) s m args below meth c H locs 0 0 (MQ below (QI X h0 o.1 o.2) args s 0 0 (aA (eB X))) (F0 m 243 ls []) := by
  obtain ⟨v_1, ev_1, hE⟩ := nm_e2 hE
  refine lv_iinc (v := v_1) (lv' := [(14, .int v_1), (0, .ref x0), (1, .ref x1), (2, .int x2), (4, .long x4), (6, .long x6), (8, .int x8), (13, .int x13)]) C.1 C.2.1 dX5_isHit_243 hl (k := 7) rfl (by rw [ev_1]; rfl) (by decide) rfl (fun ls hl => ?_)
  refine lv_goto (tgt := 133) C.1 C.2.1 dX5_isHit_246 (by decide) ?_
  exact hk_133 _ _ _ _ _ _ _ _ _ _ _ k_x0 k_x1 hkm hW hZ _ (lv_sub hl [1, 2, 3, 4, 5, 6, 7, 0] rfl) hE
set_option maxRecDepth 20000 in
theorem bX5_isHit_227 {p : Program} {l : Launch} {e : Env} {s : State} {m : MethodId} {args : Array Value} {below : List Frame} {meth : Method} {c : Code} {X : Ec} {h0 : Hp} {o : Int32 × Hp} {k_26 : Hp → Nat → Nat → Int32 → Int64 → Int64 → Int32 → Option (Int32 × Hp)} {k_133 : Hp → Nat → Nat → Int32 → Int64 → Int64 → Int32 → Int32 → Int32 → Option (Int32 × Hp)} {F : Nat} (C : Cx X p s m args meth c RX5 cX5_isHit 19 (some .boolean) "isHit") (hk_26 : ∀ (h : Hp) (x0 : Nat) (x1 : Nat) (x2 : Int32) (x4 : Int64) (x6 : Int64) (x8 : Int32) (H : Heap) (locs : List Loc), hK h x0 = 5 → hK h x1 = 3 → Km h0 h → Wx X h H → va_S (aA (eB X)) s.heap H locs → ∀ (ls : Array Slot), lv_has ls 19 [(0, .ref x0), (1, .ref x1), (2, .int x2), (4, .long x4), (6, .long x6), (8, .int x8)] → k_26 h x0 x1 x2 x4 x6 x8 = some o → W p l e (rm 0 0) s m args below meth c H locs 0 0 (MQ below (QI X h0 o.1 o.2) args s 0 0 (aA (eB X))) (F0 m 26 ls [])) (hk_133 : ∀ (h : Hp) (x0 : Nat) (x1 : Nat) (x2 : Int32) (x4 : Int64) (x6 : Int64) (x8 : Int32) (x13 : Int32) (x14 : Int32) (H : Heap) (locs : List Loc), hK h x0 = 5 → hK h x1 = 3 → Km h0 h → Wx X h H → va_S (aA (eB X)) s.heap H locs → ∀ (ls : Array Slot), lv_has ls 19 [(0, .ref x0), (1, .ref x1), (2, .int x2), (4, .long x4), (6, .long x6), (8, .int x8), (13, .int x13), (14, .int x14)] → k_133 h x0 x1 x2 x4 x6 x8 x13 x14 = some o → W p l e (rm 0 0) s m args below meth c H locs 0 0 (MQ below (QI X h0 o.1 o.2) args s 0 0 (aA (eB X))) (F0 m 133 ls [])) {h : Hp} {x0 : Nat} {x1 : Nat} {x2 : Int32} {x4 : Int64} {x6 : Int64} {x8 : Int32} {x13 : Int32} {x14 : Int32} {x15 : Int32} {t0 : Int32} {H : Heap} {locs : List Loc} (k_x0 : hK h x0 = 5) (k_x1 : hK h x1 = 3) (hkm : Km h0 h) (hW : Wx X h H) (hZ : va_S (aA (eB X)) s.heap H locs) (ls : Array Slot) (hl : lv_has ls 19 [(0, .ref x0), (1, .ref x1), (2, .int x2), (4, .long x4), (6, .long x6), (8, .int x8), (13, .int x13), (14, .int x14), (15, .int x15)]) (hE : sX5_isHit_227 F k_26 k_133 h x0 x1 x2 x4 x6 x8 x13 x14 x15 t0 = some o) : W p l e (rm 0 0) s m args below meth c H locs 0 0 (MQ below (QI X h0 o.1 o.2) args s 0 0 (aA (eB X))) (F0 m 227 ls [.int t0]) := by
  refine lv_istore (lv' := [(18, .int t0), (0, .ref x0), (1, .ref x1), (2, .int x2), (4, .long x4), (6, .long x6), (8, .int x8), (13, .int x13), (14, .int x14), (15, .int x15)]) C.1 C.2.1 dX5_isHit_227 hl (by decide) rfl (fun ls hl => ?_)
  refine lv_iload C.1 C.2.1 dX5_isHit_229 (lv_at hl 0 rfl) ?_
  refine lv_if_eq (tgt := 243) C.1 C.2.1 dX5_isHit_231 (by decide) (fun c_1 => ?_) (fun c_1 => ?_)
  · have hE := br_p hE c_1
    exact bX5_isHit_243 C hk_26 hk_133 k_x0 k_x1 hkm hW hZ _ (lv_sub hl [1, 2, 3, 4, 5, 6, 7, 8] rfl) hE
  · have hE := br_n hE c_1
    refine lv_iload C.1 C.2.1 dX5_isHit_234 (lv_at hl 9 rfl) ?_
    refine lv_iconst (v := (1 : Int32)) C.1 C.2.1 dX5_isHit_236 (by decide) ?_
    refine lv_iand C.1 C.2.1 dX5_isHit_237 ?_
    refine lv_if_ne (tgt := 243) C.1 C.2.1 dX5_isHit_238 (by decide) (fun c_2 => ?_) (fun c_2 => ?_)
    · have hE := br_n hE c_2
      exact bX5_isHit_243 C hk_26 hk_133 k_x0 k_x1 hkm hW hZ _ (lv_sub hl [1, 2, 3, 4, 5, 6, 7, 8] rfl) hE
    · have hE := br_p hE c_2
      refine lv_iconst (v := (1 : Int32)) C.1 C.2.1 dX5_isHit_241 (by decide) ?_
      exact x_iret C rfl (by decide) hW hZ hkm hE dX5_isHit_242
set_option maxRecDepth 20000 in
theorem bX5_isHit_226 {p : Program} {l : Launch} {e : Env} {s : State} {m : MethodId} {args : Array Value} {below : List Frame} {meth : Method} {c : Code} {X : Ec} {h0 : Hp} {o : Int32 × Hp} {k_26 : Hp → Nat → Nat → Int32 → Int64 → Int64 → Int32 → Option (Int32 × Hp)} {k_133 : Hp → Nat → Nat → Int32 → Int64 → Int64 → Int32 → Int32 → Int32 → Option (Int32 × Hp)} {F : Nat} (C : Cx X p s m args meth c RX5 cX5_isHit 19 (some .boolean) "isHit") (hk_26 : ∀ (h : Hp) (x0 : Nat) (x1 : Nat) (x2 : Int32) (x4 : Int64) (x6 : Int64) (x8 : Int32) (H : Heap) (locs : List Loc), hK h x0 = 5 → hK h x1 = 3 → Km h0 h → Wx X h H → va_S (aA (eB X)) s.heap H locs → ∀ (ls : Array Slot), lv_has ls 19 [(0, .ref x0), (1, .ref x1), (2, .int x2), (4, .long x4), (6, .long x6), (8, .int x8)] → k_26 h x0 x1 x2 x4 x6 x8 = some o → W p l e (rm 0 0) s m args below meth c H locs 0 0 (MQ below (QI X h0 o.1 o.2) args s 0 0 (aA (eB X))) (F0 m 26 ls [])) (hk_133 : ∀ (h : Hp) (x0 : Nat) (x1 : Nat) (x2 : Int32) (x4 : Int64) (x6 : Int64) (x8 : Int32) (x13 : Int32) (x14 : Int32) (H : Heap) (locs : List Loc), hK h x0 = 5 → hK h x1 = 3 → Km h0 h → Wx X h H → va_S (aA (eB X)) s.heap H locs → ∀ (ls : Array Slot), lv_has ls 19 [(0, .ref x0), (1, .ref x1), (2, .int x2), (4, .long x4), (6, .long x6), (8, .int x8), (13, .int x13), (14, .int x14)] → k_133 h x0 x1 x2 x4 x6 x8 x13 x14 = some o → W p l e (rm 0 0) s m args below meth c H locs 0 0 (MQ below (QI X h0 o.1 o.2) args s 0 0 (aA (eB X))) (F0 m 133 ls [])) {h : Hp} {x0 : Nat} {x1 : Nat} {x2 : Int32} {x4 : Int64} {x6 : Int64} {x8 : Int32} {x13 : Int32} {x14 : Int32} {x15 : Int32} {H : Heap} {locs : List Loc} (k_x0 : hK h x0 = 5) (k_x1 : hK h x1 = 3) (hkm : Km h0 h) (hW : Wx X h H) (hZ : va_S (aA (eB X)) s.heap H locs) (ls : Array Slot) (hl : lv_has ls 19 [(0, .ref x0), (1, .ref x1), (2, .int x2), (4, .long x4), (6, .long x6), (8, .int x8), (13, .int x13), (14, .int x14), (15, .int x15)]) (hE : sX5_isHit_226 F k_26 k_133 h x0 x1 x2 x4 x6 x8 x13 x14 x15 = some o) : W p l e (rm 0 0) s m args below meth c H locs 0 0 (MQ below (QI X h0 o.1 o.2) args s 0 0 (aA (eB X))) (F0 m 226 ls []) := by
  refine lv_iconst (v := (0 : Int32)) C.1 C.2.1 dX5_isHit_226 (by decide) ?_
  exact bX5_isHit_227 C hk_26 hk_133 k_x0 k_x1 hkm hW hZ _ (lv_sub hl [0, 1, 2, 3, 4, 5, 6, 7, 8] rfl) hE
set_option maxRecDepth 20000 in
theorem bX5_isHit_133 {p : Program} {l : Launch} {e : Env} {s : State} {m : MethodId} {args : Array Value} {below : List Frame} {meth : Method} {c : Code} {X : Ec} {h0 : Hp} {o : Int32 × Hp} {k_26 : Hp → Nat → Nat → Int32 → Int64 → Int64 → Int32 → Option (Int32 × Hp)} {F : Nat} (C : Cx X p s m args meth c RX5 cX5_isHit 19 (some .boolean) "isHit") (hk_26 : ∀ (h : Hp) (x0 : Nat) (x1 : Nat) (x2 : Int32) (x4 : Int64) (x6 : Int64) (x8 : Int32) (H : Heap) (locs : List Loc), hK h x0 = 5 → hK h x1 = 3 → Km h0 h → Wx X h H → va_S (aA (eB X)) s.heap H locs → ∀ (ls : Array Slot), lv_has ls 19 [(0, .ref x0), (1, .ref x1), (2, .int x2), (4, .long x4), (6, .long x6), (8, .int x8)] → k_26 h x0 x1 x2 x4 x6 x8 = some o → W p l e (rm 0 0) s m args below meth c H locs 0 0 (MQ below (QI X h0 o.1 o.2) args s 0 0 (aA (eB X))) (F0 m 26 ls [])) : ∀ (f : Nat) {h : Hp} {x0 : Nat} {x1 : Nat} {x2 : Int32} {x4 : Int64} {x6 : Int64} {x8 : Int32} {x13 : Int32} {x14 : Int32} {H : Heap} {locs : List Loc} (k_x0 : hK h x0 = 5) (k_x1 : hK h x1 = 3), Km h0 h → Wx X h H → va_S (aA (eB X)) s.heap H locs → ∀ (ls : Array Slot), lv_has ls 19 [(0, .ref x0), (1, .ref x1), (2, .int x2), (4, .long x4), (6, .long x6), (8, .int x8), (13, .int x13), (14, .int x14)] → sX5_isHit_133 F k_26 f h x0 x1 x2 x4 x6 x8 x13 x14 = some o → W p l e (rm 0 0) s m args below meth c H locs 0 0 (MQ below (QI X h0 o.1 o.2) args s 0 0 (aA (eB X))) (F0 m 133 ls []) := by
  intro f
  induction f with
  | zero =>
    intro h x0 x1 x2 x4 x6 x8 x13 x14 H locs k_x0 k_x1 hkm hW hZ ls hl hE
    rw [sX5_isHit_133] at hE
    cases hE
  | succ f ih =>
    intro h x0 x1 x2 x4 x6 x8 x13 x14 H locs k_x0 k_x1 hkm hW hZ ls hl hE
    rw [sX5_isHit_133] at hE
    have hk_133 : ∀ (h : Hp) (x0 : Nat) (x1 : Nat) (x2 : Int32) (x4 : Int64) (x6 : Int64) (x8 : Int32) (x13 : Int32) (x14 : Int32) (H : Heap) (locs : List Loc), hK h x0 = 5 → hK h x1 = 3 → Km h0 h → Wx X h H → va_S (aA (eB X)) s.heap H locs → ∀ (ls : Array Slot), lv_has ls 19 [(0, .ref x0), (1, .ref x1), (2, .int x2), (4, .long x4), (6, .long x6), (8, .int x8), (13, .int x13), (14, .int x14)] → sX5_isHit_133 F k_26 f h x0 x1 x2 x4 x6 x8 x13 x14 = some o → W p l e (rm 0 0) s m args below meth c H locs 0 0 (MQ below (QI X h0 o.1 o.2) args s 0 0 (aA (eB X))) (F0 m 133 ls []) := fun h x0 x1 x2 x4 x6 x8 x13 x14 H locs k_x0 k_x1 a b c ls hl hE => ih k_x0 k_x1 a b c ls hl hE
    refine lv_iload C.1 C.2.1 dX5_isHit_133 (lv_at hl 7 rfl) ?_
    refine lv_aload_n C.1 C.2.1 dX5_isHit_135 rfl (lv_at hl 0 rfl) ?_
    obtain ⟨r_1, er_1, hE⟩ := cl_e hE
    refine gf_X5_26 C hW k_x0 er_1 dX5_isHit_136 (fun k_r_1 => ?_)
    obtain ⟨r_2, er_2, hE⟩ := cl_e hE
    refine gf_X5_51 C hW k_r_1 er_2 dX5_isHit_139 (fun k_r_2 => ?_)
    refine lv_iload C.1 C.2.1 dX5_isHit_142 (lv_at hl 6 rfl) ?_
    refine lv_iconst (v := (1 : Int32)) C.1 C.2.1 dX5_isHit_144 (by decide) ?_
    refine lv_iadd C.1 C.2.1 dX5_isHit_145 ?_
    obtain ⟨g_3, hE⟩ := gd_e hE
    refine y_iald C hW k_r_2 g_3 dX5_isHit_146 ?_
    refine lv_icmp_ge (tgt := 249) C.1 C.2.1 dX5_isHit_147 (by decide) (fun c_4 => ?_) (fun c_4 => ?_)
    · have hE := br_p hE c_4
      exact bX5_isHit_249 C hk_26 k_x0 k_x1 hkm hW hZ _ (lv_sub hl [0, 1, 2, 3, 4, 5] rfl) hE
    · have hE := br_n hE c_4
      refine lv_aload_n C.1 C.2.1 dX5_isHit_150 rfl (lv_at hl 0 rfl) ?_
      obtain ⟨r_5, er_5, hE⟩ := cl_e hE
      refine gf_X5_26 C hW k_x0 er_5 dX5_isHit_151 (fun k_r_5 => ?_)
      obtain ⟨r_6, er_6, hE⟩ := cl_e hE
      refine gf_X5_54 C hW k_r_5 er_6 dX5_isHit_154 (fun k_r_6 => ?_)
      refine lv_iload C.1 C.2.1 dX5_isHit_157 (lv_at hl 7 rfl) ?_
      obtain ⟨g_7, hE⟩ := gd_e hE
      refine y_iald C hW k_r_6 g_7 dX5_isHit_159 ?_
      refine lv_bipush (v := (6 : Int32)) C.1 C.2.1 dX5_isHit_160 (by decide) ?_
      refine lv_ishr C.1 C.2.1 dX5_isHit_162 ?_
      obtain ⟨v_8, ev_8, hE⟩ := nm_e2 hE
      refine x_nmI ev_8 ?_
      refine lv_istore (lv' := [(15, .int v_8), (0, .ref x0), (1, .ref x1), (2, .int x2), (4, .long x4), (6, .long x6), (8, .int x8), (13, .int x13), (14, .int x14)]) C.1 C.2.1 dX5_isHit_163 hl (by decide) rfl (fun ls hl => ?_)
      refine lv_aload_n C.1 C.2.1 dX5_isHit_165 rfl (lv_at hl 1 rfl) ?_
      obtain ⟨r_9, er_9, hE⟩ := cl_e hE
      refine gf_X5_26 C hW k_x0 er_9 dX5_isHit_166 (fun k_r_9 => ?_)
      obtain ⟨r_10, er_10, hE⟩ := cl_e hE
      refine gf_X5_57 C hW k_r_9 er_10 dX5_isHit_169 (fun k_r_10 => ?_)
      refine lv_iload C.1 C.2.1 dX5_isHit_172 (lv_at hl 8 rfl) ?_
      obtain ⟨g_11, hE⟩ := gd_e hE
      refine y_lald C hW k_r_10 g_11 dX5_isHit_174 ?_
      refine lv_lload C.1 C.2.1 dX5_isHit_175 (lv_at hl 4 rfl) ?_
      refine lv_land C.1 C.2.1 dX5_isHit_177 ?_
      obtain ⟨v_12, ev_12, hE⟩ := nm_e2 hE
      refine x_nmJ ev_12 ?_
      refine lv_lstore (lv' := [(16, .long v_12), (15, .int v_8), (0, .ref x0), (1, .ref x1), (2, .int x2), (4, .long x4), (6, .long x6), (8, .int x8), (13, .int x13), (14, .int x14)]) C.1 C.2.1 dX5_isHit_178 hl (by decide) rfl (fun ls hl => ?_)
      refine lv_iload C.1 C.2.1 dX5_isHit_180 (lv_at hl 1 rfl) ?_
      refine lv_bipush (v := (8 : Int32)) C.1 C.2.1 dX5_isHit_182 (by decide) ?_
      refine lv_iand C.1 C.2.1 dX5_isHit_184 ?_
      refine lv_if_ne (tgt := 203) C.1 C.2.1 dX5_isHit_185 (by decide) (fun c_13 => ?_) (fun c_13 => ?_)
      · have hE := br_n hE c_13
        refine lv_lload C.1 C.2.1 dX5_isHit_203 (lv_at hl 0 rfl) ?_
        refine lv_lconst (v := (0 : Int64)) C.1 C.2.1 dX5_isHit_205 (by decide) ?_
        refine W.lcmp C.1 C.2.1 dX5_isHit_206 ?_
        refine lv_if_eq (tgt := 226) C.1 C.2.1 dX5_isHit_207 (by decide) (fun c_14 => ?_) (fun c_14 => ?_)
        · have hE := br_p hE c_14
          exact bX5_isHit_226 C hk_26 hk_133 k_x0 k_x1 hkm hW hZ _ (lv_sub hl [2, 3, 4, 5, 6, 7, 8, 9, 1] rfl) hE
        · have hE := br_n hE c_14
          refine lv_lload C.1 C.2.1 dX5_isHit_210 (lv_at hl 0 rfl) ?_
          refine lv_lload C.1 C.2.1 dX5_isHit_212 (lv_at hl 0 rfl) ?_
          refine lv_lconst (v := (1 : Int64)) C.1 C.2.1 dX5_isHit_214 (by decide) ?_
          refine lv_lsub C.1 C.2.1 dX5_isHit_215 ?_
          refine lv_land C.1 C.2.1 dX5_isHit_216 ?_
          refine lv_lconst (v := (0 : Int64)) C.1 C.2.1 dX5_isHit_217 (by decide) ?_
          refine W.lcmp C.1 C.2.1 dX5_isHit_218 ?_
          refine lv_if_ne (tgt := 226) C.1 C.2.1 dX5_isHit_219 (by decide) (fun c_15 => ?_) (fun c_15 => ?_)
          · have hE := br_n hE c_15
            exact bX5_isHit_226 C hk_26 hk_133 k_x0 k_x1 hkm hW hZ _ (lv_sub hl [2, 3, 4, 5, 6, 7, 8, 9, 1] rfl) hE
          · have hE := br_p hE c_15
            refine lv_iconst (v := (1 : Int32)) C.1 C.2.1 dX5_isHit_222 (by decide) ?_
            refine lv_goto (tgt := 227) C.1 C.2.1 dX5_isHit_223 (by decide) ?_
            exact bX5_isHit_227 C hk_26 hk_133 k_x0 k_x1 hkm hW hZ _ (lv_sub hl [2, 3, 4, 5, 6, 7, 8, 9, 1] rfl) hE
      · have hE := br_p hE c_13
        refine lv_lload C.1 C.2.1 dX5_isHit_188 (lv_at hl 0 rfl) ?_
        refine lv_lconst (v := (0 : Int64)) C.1 C.2.1 dX5_isHit_190 (by decide) ?_
        refine W.lcmp C.1 C.2.1 dX5_isHit_191 ?_
        refine lv_if_ne (tgt := 199) C.1 C.2.1 dX5_isHit_192 (by decide) (fun c_16 => ?_) (fun c_16 => ?_)
        · have hE := br_n hE c_16
          refine lv_iconst (v := (0 : Int32)) C.1 C.2.1 dX5_isHit_199 (by decide) ?_
          refine lv_goto (tgt := 227) C.1 C.2.1 dX5_isHit_200 (by decide) ?_
          exact bX5_isHit_227 C hk_26 hk_133 k_x0 k_x1 hkm hW hZ _ (lv_sub hl [2, 3, 4, 5, 6, 7, 8, 9, 1] rfl) hE
        · have hE := br_p hE c_16
          refine lv_iconst (v := (1 : Int32)) C.1 C.2.1 dX5_isHit_195 (by decide) ?_
          refine lv_goto (tgt := 227) C.1 C.2.1 dX5_isHit_196 (by decide) ?_
          exact bX5_isHit_227 C hk_26 hk_133 k_x0 k_x1 hkm hW hZ _ (lv_sub hl [2, 3, 4, 5, 6, 7, 8, 9, 1] rfl) hE
set_option maxRecDepth 20000 in
theorem bX5_isHit_26 {p : Program} {l : Launch} {e : Env} {s : State} {m : MethodId} {args : Array Value} {below : List Frame} {meth : Method} {c : Code} {X : Ec} {h0 : Hp} {o : Int32 × Hp} {F : Nat} (C : Cx X p s m args meth c RX5 cX5_isHit 19 (some .boolean) "isHit") : ∀ (f : Nat) {h : Hp} {x0 : Nat} {x1 : Nat} {x2 : Int32} {x4 : Int64} {x6 : Int64} {x8 : Int32} {H : Heap} {locs : List Loc} (k_x0 : hK h x0 = 5) (k_x1 : hK h x1 = 3), Km h0 h → Wx X h H → va_S (aA (eB X)) s.heap H locs → ∀ (ls : Array Slot), lv_has ls 19 [(0, .ref x0), (1, .ref x1), (2, .int x2), (4, .long x4), (6, .long x6), (8, .int x8)] → sX5_isHit_26 F f h x0 x1 x2 x4 x6 x8 = some o → W p l e (rm 0 0) s m args below meth c H locs 0 0 (MQ below (QI X h0 o.1 o.2) args s 0 0 (aA (eB X))) (F0 m 26 ls []) := by
  intro f
  induction f with
  | zero =>
    intro h x0 x1 x2 x4 x6 x8 H locs k_x0 k_x1 hkm hW hZ ls hl hE
    rw [sX5_isHit_26] at hE
    cases hE
  | succ f ih =>
    intro h x0 x1 x2 x4 x6 x8 H locs k_x0 k_x1 hkm hW hZ ls hl hE
    rw [sX5_isHit_26] at hE
    have hk_26 : ∀ (h : Hp) (x0 : Nat) (x1 : Nat) (x2 : Int32) (x4 : Int64) (x6 : Int64) (x8 : Int32) (H : Heap) (locs : List Loc), hK h x0 = 5 → hK h x1 = 3 → Km h0 h → Wx X h H → va_S (aA (eB X)) s.heap H locs → ∀ (ls : Array Slot), lv_has ls 19 [(0, .ref x0), (1, .ref x1), (2, .int x2), (4, .long x4), (6, .long x6), (8, .int x8)] → sX5_isHit_26 F f h x0 x1 x2 x4 x6 x8 = some o → W p l e (rm 0 0) s m args below meth c H locs 0 0 (MQ below (QI X h0 o.1 o.2) args s 0 0 (aA (eB X))) (F0 m 26 ls []) := fun h x0 x1 x2 x4 x6 x8 H locs k_x0 k_x1 a b c ls hl hE => ih k_x0 k_x1 a b c ls hl hE
    refine lv_iload C.1 C.2.1 dX5_isHit_26 (lv_at hl 5 rfl) ?_
    refine lv_bipush (v := (64 : Int32)) C.1 C.2.1 dX5_isHit_28 (by decide) ?_
    refine lv_icmp_ge (tgt := 255) C.1 C.2.1 dX5_isHit_30 (by decide) (fun c_1 => ?_) (fun c_1 => ?_)
    · have hE := br_p hE c_1
      exact bX5_isHit_255 C hkm hW hZ _ (lv_sub hl [] rfl) hE
    · have hE := br_n hE c_1
      refine lv_lload C.1 C.2.1 dX5_isHit_33 (lv_at hl 4 rfl) ?_
      refine lv_lconst (v := (0 : Int64)) C.1 C.2.1 dX5_isHit_35 (by decide) ?_
      refine W.lcmp C.1 C.2.1 dX5_isHit_36 ?_
      refine lv_if_eq (tgt := 255) C.1 C.2.1 dX5_isHit_37 (by decide) (fun c_2 => ?_) (fun c_2 => ?_)
      · have hE := br_p hE c_2
        exact bX5_isHit_255 C hkm hW hZ _ (lv_sub hl [] rfl) hE
      · have hE := br_n hE c_2
        refine lv_lload C.1 C.2.1 dX5_isHit_40 (lv_at hl 4 rfl) ?_
        refine lv_lload C.1 C.2.1 dX5_isHit_42 (lv_at hl 4 rfl) ?_
        refine lv_lneg C.1 C.2.1 dX5_isHit_44 ?_
        refine lv_land C.1 C.2.1 dX5_isHit_45 ?_
        obtain ⟨v_3, ev_3, hE⟩ := nm_e2 hE
        refine x_nmJ ev_3 ?_
        refine lv_lstore (lv' := [(9, .long v_3), (0, .ref x0), (1, .ref x1), (2, .int x2), (4, .long x4), (6, .long x6), (8, .int x8)]) C.1 C.2.1 dX5_isHit_46 hl (by decide) rfl (fun ls hl => ?_)
        refine lv_lload C.1 C.2.1 dX5_isHit_48 (lv_at hl 5 rfl) ?_
        refine lv_lload C.1 C.2.1 dX5_isHit_50 (lv_at hl 0 rfl) ?_
        refine lv_lxor C.1 C.2.1 dX5_isHit_52 ?_
        obtain ⟨v_4, ev_4, hE⟩ := nm_e2 hE
        refine x_nmJ ev_4 ?_
        refine lv_lstore (lv' := [(6, .long v_4), (9, .long v_3), (0, .ref x0), (1, .ref x1), (2, .int x2), (4, .long x4), (8, .int x8)]) C.1 C.2.1 dX5_isHit_53 hl (by decide) rfl (fun ls hl => ?_)
        refine y_sqN C hZ n_1097 dX5_isHit_55 ?_
        refine lv_lload C.1 C.2.1 dX5_isHit_58 (lv_at hl 1 rfl) ?_
        refine lv_ldc2 (v := (285870213051386505 : Int64)) C.1 C.2.1 C.2.2.2.1 (C.2.2.2.2.1 _ m_1098) dX5_isHit_60 ?_
        refine lv_lmul C.1 C.2.1 dX5_isHit_63 ?_
        refine lv_bipush (v := (58 : Int32)) C.1 C.2.1 dX5_isHit_64 (by decide) ?_
        refine lv_lushr C.1 C.2.1 dX5_isHit_66 rfl ?_
        refine lv_l2i C.1 C.2.1 dX5_isHit_67 rfl ?_
        obtain ⟨g_5, hE⟩ := gd_e hE
        refine y_sqld C hZ g_5 dX5_isHit_68 ?_
        obtain ⟨v_6, ev_6, hE⟩ := nm_e2 hE
        refine x_nmI ev_6 ?_
        refine lv_istore (lv' := [(11, .int v_6), (6, .long v_4), (9, .long v_3), (0, .ref x0), (1, .ref x1), (2, .int x2), (4, .long x4), (8, .int x8)]) C.1 C.2.1 dX5_isHit_69 hl (by decide) rfl (fun ls hl => ?_)
        refine lv_aload_n C.1 C.2.1 dX5_isHit_71 rfl (lv_at hl 4 rfl) ?_
        obtain ⟨r_7, er_7, hE⟩ := cl_e hE
        refine gf_X5_42 C hW k_x1 er_7 dX5_isHit_72 (fun k_r_7 => ?_)
        refine lv_iload C.1 C.2.1 dX5_isHit_75 (lv_at hl 0 rfl) ?_
        obtain ⟨g_8, hE⟩ := gd_e hE
        refine y_bald C hW k_r_7 g_8 dX5_isHit_77 ?_
        obtain ⟨v_9, ev_9, hE⟩ := nm_e2 hE
        refine x_nmI ev_9 ?_
        refine lv_istore (lv' := [(12, .int v_9), (11, .int v_6), (6, .long v_4), (9, .long v_3), (0, .ref x0), (1, .ref x1), (2, .int x2), (4, .long x4), (8, .int x8)]) C.1 C.2.1 dX5_isHit_78 hl (by decide) rfl (fun ls hl => ?_)
        refine lv_aload_n C.1 C.2.1 dX5_isHit_80 rfl (lv_at hl 4 rfl) ?_
        obtain ⟨r_10, er_10, hE⟩ := cl_e hE
        refine gf_X5_26 C hW k_x0 er_10 dX5_isHit_81 (fun k_r_10 => ?_)
        obtain ⟨r_11, er_11, hE⟩ := cl_e hE
        refine gf_X5_46 C hW k_r_10 er_11 dX5_isHit_84 (fun k_r_11 => ?_)
        refine lv_iload C.1 C.2.1 dX5_isHit_87 (lv_at hl 0 rfl) ?_
        refine lv_bipush (v := (64 : Int32)) C.1 C.2.1 dX5_isHit_89 (by decide) ?_
        refine lv_imul C.1 C.2.1 dX5_isHit_91 ?_
        refine lv_iload_n C.1 C.2.1 dX5_isHit_92 rfl (lv_at hl 6 rfl) ?_
        refine lv_iadd C.1 C.2.1 dX5_isHit_93 ?_
        obtain ⟨g_12, hE⟩ := gd_e hE
        refine y_lald C hW k_r_11 g_12 dX5_isHit_94 ?_
        refine lv_lload C.1 C.2.1 dX5_isHit_95 (lv_at hl 3 rfl) ?_
        refine lv_land C.1 C.2.1 dX5_isHit_97 ?_
        refine lv_lconst (v := (0 : Int64)) C.1 C.2.1 dX5_isHit_98 (by decide) ?_
        refine W.lcmp C.1 C.2.1 dX5_isHit_99 ?_
        refine lv_if_ne (tgt := 106) C.1 C.2.1 dX5_isHit_100 (by decide) (fun c_13 => ?_) (fun c_13 => ?_)
        · have hE := br_n hE c_13
          refine lv_iload C.1 C.2.1 dX5_isHit_106 (lv_at hl 0 rfl) ?_
          refine lv_bipush (v := (64 : Int32)) C.1 C.2.1 dX5_isHit_108 (by decide) ?_
          refine lv_imul C.1 C.2.1 dX5_isHit_110 ?_
          refine lv_iload C.1 C.2.1 dX5_isHit_111 (lv_at hl 1 rfl) ?_
          refine lv_iadd C.1 C.2.1 dX5_isHit_113 ?_
          refine lv_bipush (v := (64 : Int32)) C.1 C.2.1 dX5_isHit_114 (by decide) ?_
          refine lv_imul C.1 C.2.1 dX5_isHit_116 ?_
          refine lv_iload_n C.1 C.2.1 dX5_isHit_117 rfl (lv_at hl 6 rfl) ?_
          refine lv_iadd C.1 C.2.1 dX5_isHit_118 ?_
          obtain ⟨v_14, ev_14, hE⟩ := nm_e2 hE
          refine x_nmI ev_14 ?_
          refine lv_istore (lv' := [(13, .int v_14), (12, .int v_9), (11, .int v_6), (6, .long v_4), (9, .long v_3), (0, .ref x0), (1, .ref x1), (2, .int x2), (4, .long x4), (8, .int x8)]) C.1 C.2.1 dX5_isHit_119 hl (by decide) rfl (fun ls hl => ?_)
          refine lv_aload_n C.1 C.2.1 dX5_isHit_121 rfl (lv_at hl 5 rfl) ?_
          obtain ⟨r_15, er_15, hE⟩ := cl_e hE
          refine gf_X5_26 C hW k_x0 er_15 dX5_isHit_122 (fun k_r_15 => ?_)
          obtain ⟨r_16, er_16, hE⟩ := cl_e hE
          refine gf_X5_51 C hW k_r_15 er_16 dX5_isHit_125 (fun k_r_16 => ?_)
          refine lv_iload C.1 C.2.1 dX5_isHit_128 (lv_at hl 0 rfl) ?_
          obtain ⟨g_17, hE⟩ := gd_e hE
          refine y_iald C hW k_r_16 g_17 dX5_isHit_130 ?_
          obtain ⟨v_18, ev_18, hE⟩ := nm_e2 hE
          refine x_nmI ev_18 ?_
          refine lv_istore (lv' := [(14, .int v_18), (13, .int v_14), (12, .int v_9), (11, .int v_6), (6, .long v_4), (9, .long v_3), (0, .ref x0), (1, .ref x1), (2, .int x2), (4, .long x4), (8, .int x8)]) C.1 C.2.1 dX5_isHit_131 hl (by decide) rfl (fun ls hl => ?_)
          exact bX5_isHit_133 C hk_26 F k_x0 k_x1 hkm hW hZ _ (lv_sub hl [6, 7, 8, 9, 4, 10, 1, 0] rfl) hE
        · have hE := br_p hE c_13
          refine lv_goto (tgt := 249) C.1 C.2.1 dX5_isHit_103 (by decide) ?_
          exact bX5_isHit_249 C hk_26 k_x0 k_x1 hkm hW hZ _ (lv_sub hl [4, 5, 6, 7, 2, 8] rfl) hE
set_option maxRecDepth 20000 in
theorem ct_X5_isHit (l : Launch) (X : Ec) (F : Nat) {h : Hp} {x0 : Nat} {x1 : Nat} {x2 : Int32} {x3 : Int32} {o : Int32 × Hp} (k_x0 : hK h x0 = 5) (k_x1 : hK h x1 = 3) (hE : sX5_isHit F h x0 x1 x2 x3 = some o) : MetI l yX5_isHit cX5_isHit 19 (some .boolean) 0 0 X [.ref x0, .ref x1, .int x2, .int x3] h o := by
  refine x_met (by decide) (Nat.le_of_ble_eq_true rfl) ?_
  intro p e s m below meth c ls C hl hW hZ
  have hl : lv_has ls 19 [(0, .ref x0), (1, .ref x1), (2, .int x2), (3, .int x3)] := hl
  have hkm : Km h h := Km.rf h
  refine lv_aload_n C.1 C.2.1 dX5_isHit_0 rfl (lv_at hl 1 rfl) ?_
  obtain ⟨r_1, er_1, hE⟩ := cl_e hE
  refine gf_X5_33 C hW k_x1 er_1 dX5_isHit_1 (fun k_r_1 => ?_)
  refine lv_iconst (v := (0 : Int32)) C.1 C.2.1 dX5_isHit_4 (by decide) ?_
  obtain ⟨g_2, hE⟩ := gd_e hE
  refine y_lald C hW k_r_1 g_2 dX5_isHit_5 ?_
  refine lv_aload_n C.1 C.2.1 dX5_isHit_6 rfl (lv_at hl 1 rfl) ?_
  obtain ⟨r_3, er_3, hE⟩ := cl_e hE
  refine gf_X5_33 C hW k_x1 er_3 dX5_isHit_7 (fun k_r_3 => ?_)
  refine lv_iconst (v := (1 : Int32)) C.1 C.2.1 dX5_isHit_10 (by decide) ?_
  obtain ⟨g_4, hE⟩ := gd_e hE
  refine y_lald C hW k_r_3 g_4 dX5_isHit_11 ?_
  refine lv_lor C.1 C.2.1 dX5_isHit_12 ?_
  obtain ⟨v_5, ev_5, hE⟩ := nm_e2 hE
  refine x_nmJ ev_5 ?_
  refine lv_lstore (lv' := [(4, .long v_5), (0, .ref x0), (1, .ref x1), (2, .int x2), (3, .int x3)]) C.1 C.2.1 dX5_isHit_13 hl (by decide) rfl (fun ls hl => ?_)
  refine lv_aload_n C.1 C.2.1 dX5_isHit_15 rfl (lv_at hl 2 rfl) ?_
  obtain ⟨r_6, er_6, hE⟩ := cl_e hE
  refine gf_X5_33 C hW k_x1 er_6 dX5_isHit_16 (fun k_r_6 => ?_)
  refine lv_iload_n C.1 C.2.1 dX5_isHit_19 rfl (lv_at hl 4 rfl) ?_
  obtain ⟨g_7, hE⟩ := gd_e hE
  refine y_lald C hW k_r_6 g_7 dX5_isHit_20 ?_
  obtain ⟨v_8, ev_8, hE⟩ := nm_e2 hE
  refine x_nmJ ev_8 ?_
  refine lv_lstore (lv' := [(6, .long v_8), (4, .long v_5), (0, .ref x0), (1, .ref x1), (2, .int x2), (3, .int x3)]) C.1 C.2.1 dX5_isHit_21 hl (by decide) rfl (fun ls hl => ?_)
  refine lv_iconst (v := (0 : Int32)) C.1 C.2.1 dX5_isHit_23 (by decide) ?_
  refine lv_istore (lv' := [(8, .int (0 : Int32)), (6, .long v_8), (4, .long v_5), (0, .ref x0), (1, .ref x1), (2, .int x2), (3, .int x3)]) C.1 C.2.1 dX5_isHit_24 hl (by decide) rfl (fun ls hl => ?_)
  exact bX5_isHit_26 C F k_x0 k_x1 hkm hW hZ _ (lv_sub hl [3, 4, 5, 2, 1, 0] rfl) hE
theorem m_1093 : Cond.methodLink RX5 63 yX5_isHit ∈ W0 := w0_in (List.mem_append_right _ (List.mem_of_getElem? (i := 1093) (by decide +kernel))) rfl
theorem m_1094 : Cond.instanceMethod yX5_isHit ∈ W0 := w0_in (List.mem_append_right _ (List.mem_of_getElem? (i := 1094) (by decide +kernel))) rfl
theorem m_1095 : Cond.selects RX5 yX5_isHit yX5_isHit ∈ W0 := w0_in (List.mem_append_right _ (List.mem_of_getElem? (i := 1095) (by decide +kernel))) rfl
theorem m_1096 : Cond.code yX5_isHit cX5_isHit 19 (some .boolean) ∈ W0 := w0_in (List.mem_append_right _ (List.mem_of_getElem? (i := 1096) (by decide +kernel))) rfl
theorem cw_X5_63 : cwd RX5 63 yX5_isHit cX5_isHit 19 (some .boolean) false 3 := ⟨m_1096, m_1093, m_7, ⟨m_1094, m_1095⟩, by decide, by decide, by decide +kernel⟩
theorem dX5_isRoyalHit_0 : decode cX5_isRoyalHit 0 = .ok (.aload_n 1, 1) := by decide +kernel
theorem dX5_isRoyalHit_1 : decode cX5_isRoyalHit 1 = .ok (.getfield 60, 3) := by decide +kernel
theorem dX5_isRoyalHit_4 : decode cX5_isRoyalHit 4 = .ok (.iload_n 2, 1) := by decide +kernel
theorem dX5_isRoyalHit_5 : decode cX5_isRoyalHit 5 = .ok (.iaload, 1) := by decide +kernel
theorem dX5_isRoyalHit_6 : decode cX5_isRoyalHit 6 = .ok (.iconst (-1), 1) := by decide +kernel
theorem dX5_isRoyalHit_7 : decode cX5_isRoyalHit 7 = .ok (.if_icmp .eq 24, 3) := by decide +kernel
theorem dX5_isRoyalHit_10 : decode cX5_isRoyalHit 10 = .ok (.aload_n 0, 1) := by decide +kernel
theorem dX5_isRoyalHit_11 : decode cX5_isRoyalHit 11 = .ok (.aload_n 1, 1) := by decide +kernel
theorem dX5_isRoyalHit_12 : decode cX5_isRoyalHit 12 = .ok (.aload_n 1, 1) := by decide +kernel
theorem dX5_isRoyalHit_13 : decode cX5_isRoyalHit 13 = .ok (.getfield 60, 3) := by decide +kernel
theorem dX5_isRoyalHit_16 : decode cX5_isRoyalHit 16 = .ok (.iload_n 2, 1) := by decide +kernel
theorem dX5_isRoyalHit_17 : decode cX5_isRoyalHit 17 = .ok (.iaload, 1) := by decide +kernel
theorem dX5_isRoyalHit_18 : decode cX5_isRoyalHit 18 = .ok (.iconst 1, 1) := by decide +kernel
theorem dX5_isRoyalHit_19 : decode cX5_isRoyalHit 19 = .ok (.iload_n 2, 1) := by decide +kernel
theorem dX5_isRoyalHit_20 : decode cX5_isRoyalHit 20 = .ok (.isub, 1) := by decide +kernel
theorem dX5_isRoyalHit_21 : decode cX5_isRoyalHit 21 = .ok (.invokevirtual 63, 3) := by decide +kernel
theorem dX5_isRoyalHit_24 : decode cX5_isRoyalHit 24 = .ok (.ifCond .eq 7, 3) := by decide +kernel
theorem dX5_isRoyalHit_27 : decode cX5_isRoyalHit 27 = .ok (.iconst 1, 1) := by decide +kernel
theorem dX5_isRoyalHit_28 : decode cX5_isRoyalHit 28 = .ok (.goto 4, 3) := by decide +kernel
theorem dX5_isRoyalHit_31 : decode cX5_isRoyalHit 31 = .ok (.iconst 0, 1) := by decide +kernel
theorem dX5_isRoyalHit_32 : decode cX5_isRoyalHit 32 = .ok (.ireturn, 1) := by decide +kernel
def sX5_isRoyalHit_32 (F : Nat) (h : Hp) (t0 : Int32) : Option (Int32 × Hp) := gd (t0 &&& 1 = t0) <| some (t0, h)
def sX5_isRoyalHit_31 (F : Nat) (h : Hp) : Option (Int32 × Hp) := sX5_isRoyalHit_32 F h (0 : Int32)
def sX5_isRoyalHit (F : Nat) (h : Hp) (x0 : Nat) (x1 : Nat) (x2 : Int32) : Option (Int32 × Hp) := cl (hR h x1 2) fun r_1 => gd (inB x2 (hN h r_1)) <| br ((hI h r_1 x2.toNatClampNeg) = (-1 : Int32)) (sX5_isRoyalHit_31 F h ) (cl (hR h x1 2) fun r_4 => gd (inB x2 (hN h r_4)) <| cl (sX5_isHit F h x0 x1 (hI h r_4 x2.toNatClampNeg) ((1 : Int32) - x2)) fun o_6 => br (o_6.1 = 0) (sX5_isRoyalHit_31 F o_6.2 ) (sX5_isRoyalHit_32 F o_6.2 (1 : Int32)))
set_option maxRecDepth 20000 in
theorem moX5_isRoyalHit_32 {o : Int32 × Hp} {F : Nat} {h : Hp} {t0 : Int32} (hE : sX5_isRoyalHit_32 F h  t0 = some o) : Le h o.2 := by
  obtain ⟨g_1, hE⟩ := gd_e hE
  cases hE
  exact Le.rf _
set_option maxRecDepth 20000 in
theorem moX5_isRoyalHit_31 {o : Int32 × Hp} {F : Nat} {h : Hp} (hE : sX5_isRoyalHit_31 F h  = some o) : Le h o.2 := by
  exact moX5_isRoyalHit_32 hE
set_option maxRecDepth 20000 in
theorem moX5_isRoyalHit {o : Int32 × Hp} {F : Nat} {h : Hp} {x0 : Nat} {x1 : Nat} {x2 : Int32} (hE : sX5_isRoyalHit F h x0 x1 x2 = some o) : Le h o.2 := by
  obtain ⟨r_1, er_1, hE⟩ := cl_e hE
  obtain ⟨g_2, hE⟩ := gd_e hE
  rcases br_e hE with ⟨_, hE⟩ | ⟨_, hE⟩
  · exact moX5_isRoyalHit_31 hE
  · obtain ⟨r_4, er_4, hE⟩ := cl_e hE
    obtain ⟨g_5, hE⟩ := gd_e hE
    obtain ⟨o_6, eo_6, hE⟩ := cl_e hE
    refine (moX5_isHit eo_6).tr ?_
    rcases br_e hE with ⟨_, hE⟩ | ⟨_, hE⟩
    · exact moX5_isRoyalHit_31 hE
    · exact moX5_isRoyalHit_32 hE
set_option maxRecDepth 20000 in
theorem bX5_isRoyalHit_32 {p : Program} {l : Launch} {e : Env} {s : State} {m : MethodId} {args : Array Value} {below : List Frame} {meth : Method} {c : Code} {X : Ec} {h0 : Hp} {o : Int32 × Hp} {F : Nat} (C : Cx X p s m args meth c RX5 cX5_isRoyalHit 3 (some .boolean) "isRoyalHit") {h : Hp} {t0 : Int32} {H : Heap} {locs : List Loc} (hkm : Km h0 h) (hW : Wx X h H) (hZ : va_S (aA (eB X)) s.heap H locs) (ls : Array Slot) (hl : lv_has ls 3 []) (hE : sX5_isRoyalHit_32 F h  t0 = some o) : W p l e (rm 1 38) s m args below meth c H locs 0 0 (MQ below (QI X h0 o.1 o.2) args s 0 0 (aA (eB X))) (F0 m 32 ls [.int t0]) := by
  obtain ⟨g_1, hE⟩ := gd_e hE
  exact x_iret C rfl (narB g_1) hW hZ hkm hE dX5_isRoyalHit_32
set_option maxRecDepth 20000 in
theorem bX5_isRoyalHit_31 {p : Program} {l : Launch} {e : Env} {s : State} {m : MethodId} {args : Array Value} {below : List Frame} {meth : Method} {c : Code} {X : Ec} {h0 : Hp} {o : Int32 × Hp} {F : Nat} (C : Cx X p s m args meth c RX5 cX5_isRoyalHit 3 (some .boolean) "isRoyalHit") {h : Hp} {H : Heap} {locs : List Loc} (hkm : Km h0 h) (hW : Wx X h H) (hZ : va_S (aA (eB X)) s.heap H locs) (ls : Array Slot) (hl : lv_has ls 3 []) (hE : sX5_isRoyalHit_31 F h  = some o) : W p l e (rm 1 38) s m args below meth c H locs 0 0 (MQ below (QI X h0 o.1 o.2) args s 0 0 (aA (eB X))) (F0 m 31 ls []) := by
  refine lv_iconst (v := (0 : Int32)) C.1 C.2.1 dX5_isRoyalHit_31 (by decide) ?_
  exact bX5_isRoyalHit_32 C hkm hW hZ _ (lv_sub hl [] rfl) hE
set_option maxRecDepth 20000 in
theorem ct_X5_isRoyalHit (l : Launch) (X : Ec) (F : Nat) {h : Hp} {x0 : Nat} {x1 : Nat} {x2 : Int32} {o : Int32 × Hp} (k_x0 : hK h x0 = 5) (k_x1 : hK h x1 = 3) (hE : sX5_isRoyalHit F h x0 x1 x2 = some o) : MetI l yX5_isRoyalHit cX5_isRoyalHit 3 (some .boolean) 1 38 X [.ref x0, .ref x1, .int x2] h o := by
  refine x_met (by decide) (Nat.le_of_ble_eq_true rfl) ?_
  intro p e s m below meth c ls C hl hW hZ
  have hl : lv_has ls 3 [(0, .ref x0), (1, .ref x1), (2, .int x2)] := hl
  have hkm : Km h h := Km.rf h
  refine lv_aload_n C.1 C.2.1 dX5_isRoyalHit_0 rfl (lv_at hl 1 rfl) ?_
  obtain ⟨r_1, er_1, hE⟩ := cl_e hE
  refine gf_X5_60 C hW k_x1 er_1 dX5_isRoyalHit_1 (fun k_r_1 => ?_)
  refine lv_iload_n C.1 C.2.1 dX5_isRoyalHit_4 rfl (lv_at hl 2 rfl) ?_
  obtain ⟨g_2, hE⟩ := gd_e hE
  refine y_iald C hW k_r_1 g_2 dX5_isRoyalHit_5 ?_
  refine lv_iconst (v := (-1 : Int32)) C.1 C.2.1 dX5_isRoyalHit_6 (by decide) ?_
  refine lv_icmp_eq (tgt := 31) C.1 C.2.1 dX5_isRoyalHit_7 (by decide) (fun c_3 => ?_) (fun c_3 => ?_)
  · have hE := br_p hE c_3
    exact bX5_isRoyalHit_31 C hkm hW hZ _ (lv_sub hl [] rfl) hE
  · have hE := br_n hE c_3
    refine lv_aload_n C.1 C.2.1 dX5_isRoyalHit_10 rfl (lv_at hl 0 rfl) ?_
    refine lv_aload_n C.1 C.2.1 dX5_isRoyalHit_11 rfl (lv_at hl 1 rfl) ?_
    refine lv_aload_n C.1 C.2.1 dX5_isRoyalHit_12 rfl (lv_at hl 1 rfl) ?_
    obtain ⟨r_4, er_4, hE⟩ := cl_e hE
    refine gf_X5_60 C hW k_x1 er_4 dX5_isRoyalHit_13 (fun k_r_4 => ?_)
    refine lv_iload_n C.1 C.2.1 dX5_isRoyalHit_16 rfl (lv_at hl 2 rfl) ?_
    obtain ⟨g_5, hE⟩ := gd_e hE
    refine y_iald C hW k_r_4 g_5 dX5_isRoyalHit_17 ?_
    refine lv_iconst (v := (1 : Int32)) C.1 C.2.1 dX5_isRoyalHit_18 (by decide) ?_
    refine lv_iload_n C.1 C.2.1 dX5_isRoyalHit_19 rfl (lv_at hl 2 rfl) ?_
    refine lv_isub C.1 C.2.1 dX5_isRoyalHit_20 ?_
    obtain ⟨o_6, eo_6, hE⟩ := cl_e hE
    refine x_kI (o := o_6) (z_runV (As := [.ref x1, .int (hI h r_4 x2.toNatClampNeg), .int ((1 : Int32) - x2)]) (rest := []) C (ct_X5_isHit l X F k_x0 k_x1 eo_6) cw_X5_63 hW hZ k_x0 (by decide) rfl rfl rfl hl.1 (Nat.le_of_ble_eq_true rfl) rfl dX5_isRoyalHit_21 ⟨Nat.le_of_ble_eq_true rfl, Nat.le_of_ble_eq_true rfl⟩ ⟨Nat.le_refl _, Nat.le_refl _⟩) hZ (fun _ _ hW km hZ => ?_)
    replace hkm := hkm.tr km
    replace k_x0 := km.at k_x0 (by decide)
    replace k_x1 := km.at k_x1 (by decide)
    refine lv_if_eq (tgt := 31) C.1 C.2.1 dX5_isRoyalHit_24 (by decide) (fun c_7 => ?_) (fun c_7 => ?_)
    · have hE := br_p hE c_7
      exact bX5_isRoyalHit_31 C hkm hW hZ _ (lv_sub hl [] rfl) hE
    · have hE := br_n hE c_7
      refine lv_iconst (v := (1 : Int32)) C.1 C.2.1 dX5_isRoyalHit_27 (by decide) ?_
      refine lv_goto (tgt := 32) C.1 C.2.1 dX5_isRoyalHit_28 (by decide) ?_
      exact bX5_isRoyalHit_32 C hkm hW hZ _ (lv_sub hl [] rfl) hE
theorem ms_43 : Cond.selects RX5 yX5_hasRightPass yX5_hasRightPass ∈ W0 := w0_in (List.mem_append_left _ (List.mem_of_getElem? (i := 43) (by decide +kernel))) rfl
theorem ms_42 : Cond.selects RX5 yX5_hasRightRights yX5_hasRightRights ∈ W0 := w0_in (List.mem_append_left _ (List.mem_of_getElem? (i := 42) (by decide +kernel))) rfl
theorem ms_41 : Cond.selects RX5 yX5_hasLateMan yX5_hasLateMan ∈ W0 := w0_in (List.mem_append_left _ (List.mem_of_getElem? (i := 41) (by decide +kernel))) rfl
theorem ms_40 : Cond.selects RX5 yX5_hasRightMen yX5_hasRightMen ∈ W0 := w0_in (List.mem_append_left _ (List.mem_of_getElem? (i := 40) (by decide +kernel))) rfl
theorem m_102 : Cond.fieldLink RX5 276 (TX1 7).1 (TX1 7).2.1 (TX1 7).2.2.1 ∈ W0 := w0_in (List.mem_append_right _ (List.mem_of_getElem? (i := 102) (by decide +kernel))) rfl
theorem m_290 : Cond.fieldLink RX5 303 (TX3 3).1 (TX3 3).2.1 (TX3 3).2.2.1 ∈ W0 := w0_in (List.mem_append_right _ (List.mem_of_getElem? (i := 290) (by decide +kernel))) rfl
theorem m_294 : Cond.fieldLink RX5 283 (TX3 4).1 (TX3 4).2.1 (TX3 4).2.2.1 ∈ W0 := w0_in (List.mem_append_right _ (List.mem_of_getElem? (i := 294) (by decide +kernel))) rfl
theorem m_316 : Cond.fieldLink RX5 326 (TX3 9).1 (TX3 9).2.1 (TX3 9).2.2.1 ∈ W0 := w0_in (List.mem_append_right _ (List.mem_of_getElem? (i := 316) (by decide +kernel))) rfl
theorem m_1039 : Cond.methodLink RX5 316 yX5_hasRightMen ∈ W0 := w0_in (List.mem_append_right _ (List.mem_of_getElem? (i := 1039) (by decide +kernel))) rfl
theorem m_1041 : Cond.instanceMethod yX5_hasRightMen ∈ W0 := w0_in (List.mem_append_right _ (List.mem_of_getElem? (i := 1041) (by decide +kernel))) rfl
theorem m_1042 : Cond.code yX5_hasRightMen cX5_hasRightMen 8 (some .boolean) ∈ W0 := w0_in (List.mem_append_right _ (List.mem_of_getElem? (i := 1042) (by decide +kernel))) rfl
theorem m_1054 : Cond.methodLink RX5 320 yX5_hasLateMan ∈ W0 := w0_in (List.mem_append_right _ (List.mem_of_getElem? (i := 1054) (by decide +kernel))) rfl
theorem m_1056 : Cond.instanceMethod yX5_hasLateMan ∈ W0 := w0_in (List.mem_append_right _ (List.mem_of_getElem? (i := 1056) (by decide +kernel))) rfl
theorem m_1057 : Cond.code yX5_hasLateMan cX5_hasLateMan 7 (some .boolean) ∈ W0 := w0_in (List.mem_append_right _ (List.mem_of_getElem? (i := 1057) (by decide +kernel))) rfl
theorem m_1063 : Cond.methodLink RX5 323 yX5_hasRightRights ∈ W0 := w0_in (List.mem_append_right _ (List.mem_of_getElem? (i := 1063) (by decide +kernel))) rfl
theorem m_1065 : Cond.instanceMethod yX5_hasRightRights ∈ W0 := w0_in (List.mem_append_right _ (List.mem_of_getElem? (i := 1065) (by decide +kernel))) rfl
theorem m_1066 : Cond.code yX5_hasRightRights cX5_hasRightRights 5 (some .boolean) ∈ W0 := w0_in (List.mem_append_right _ (List.mem_of_getElem? (i := 1066) (by decide +kernel))) rfl
theorem m_1072 : Cond.methodLink RX5 329 yX5_hasRightPass ∈ W0 := w0_in (List.mem_append_right _ (List.mem_of_getElem? (i := 1072) (by decide +kernel))) rfl
theorem m_1074 : Cond.instanceMethod yX5_hasRightPass ∈ W0 := w0_in (List.mem_append_right _ (List.mem_of_getElem? (i := 1074) (by decide +kernel))) rfl
theorem m_1075 : Cond.code yX5_hasRightPass cX5_hasRightPass 8 (some .boolean) ∈ W0 := w0_in (List.mem_append_right _ (List.mem_of_getElem? (i := 1075) (by decide +kernel))) rfl
theorem m_1089 : Cond.methodLink RX5 279 yX5_isRoyalHit ∈ W0 := w0_in (List.mem_append_right _ (List.mem_of_getElem? (i := 1089) (by decide +kernel))) rfl
theorem m_1090 : Cond.instanceMethod yX5_isRoyalHit ∈ W0 := w0_in (List.mem_append_right _ (List.mem_of_getElem? (i := 1090) (by decide +kernel))) rfl
theorem m_1091 : Cond.selects RX5 yX5_isRoyalHit yX5_isRoyalHit ∈ W0 := w0_in (List.mem_append_right _ (List.mem_of_getElem? (i := 1091) (by decide +kernel))) rfl
theorem m_1092 : Cond.code yX5_isRoyalHit cX5_isRoyalHit 3 (some .boolean) ∈ W0 := w0_in (List.mem_append_right _ (List.mem_of_getElem? (i := 1092) (by decide +kernel))) rfl
section
variable {p : Program} {l : Launch} {e : Env} {R : Room} {s : State} {m : MethodId} {args : Array Value} {below : List Frame} {meth : Method} {c : Code} {H : Heap} {locs : List Loc} {cells slots : Nat} {Q : State → Prop}
variable {cc : ByteArray} {pc : Nat} {ls : Array Slot} {rest : List Value} {X : Ec} {h h1 : Hp} {nL : Nat} {rt : Option FieldType} {mn : String}
theorem gf_X5_303 {a r : Nat} (C : Cx X p s m args meth c RX5 cc nL rt mn) (hW : Wx X h H) (ha : hK h a = 3) (hr : hR h a 3 = some r) (hdg : decode cc pc = .ok (.getfield 303, 3)) (kk : hK h r = 18 → W p l e R s m args below meth c H locs cells slots Q (F0 m (pc + 3) ls (.ref r :: rest))) : W p l e R s m args below meth c H locs cells slots Q (F0 m pc ls (.ref a :: rest)) :=
  y_getr C hW ha i_X3 (by decide) rfl (by decide) m_290 rfl rfl hr hdg kk
theorem gf_X5_276 {a : Nat} (C : Cx X p s m args meth c RX5 cc nL rt mn) (hW : Wx X h H) (ha : hK h a = 1) (hdg : decode cc pc = .ok (.getfield 276, 3)) (kk : W p l e R s m args below meth c H locs cells slots Q (F0 m (pc + 3) ls (.int (hI h a 7) :: rest))) : W p l e R s m args below meth c H locs cells slots Q (F0 m pc ls (.ref a :: rest)) :=
  y_geti C hW ha i_X1 (by decide) rfl (by decide) m_102 rfl hdg kk
theorem gf_X5_283 {a r : Nat} (C : Cx X p s m args meth c RX5 cc nL rt mn) (hW : Wx X h H) (ha : hK h a = 3) (hr : hR h a 4 = some r) (hdg : decode cc pc = .ok (.getfield 283, 3)) (kk : hK h r = 17 → W p l e R s m args below meth c H locs cells slots Q (F0 m (pc + 3) ls (.ref r :: rest))) : W p l e R s m args below meth c H locs cells slots Q (F0 m pc ls (.ref a :: rest)) :=
  y_getr C hW ha i_X3 (by decide) rfl (by decide) m_294 rfl rfl hr hdg kk
theorem gf_X5_326 {a : Nat} (C : Cx X p s m args meth c RX5 cc nL rt mn) (hW : Wx X h H) (ha : hK h a = 3) (hdg : decode cc pc = .ok (.getfield 326, 3)) (kk : W p l e R s m args below meth c H locs cells slots Q (F0 m (pc + 3) ls (.long (hJ h a 9) :: rest))) : W p l e R s m args below meth c H locs cells slots Q (F0 m pc ls (.ref a :: rest)) :=
  y_getj C hW ha i_X3 (by decide) rfl (by decide) m_316 rfl hdg kk
end
theorem cw_X5_279 : cwd RX5 279 yX5_isRoyalHit cX5_isRoyalHit 3 (some .boolean) false 2 := ⟨m_1092, m_1089, m_7, ⟨m_1090, m_1091⟩, by decide, by decide, by decide +kernel⟩
theorem cw_X5_316 : cwd RX5 316 yX5_hasRightMen cX5_hasRightMen 8 (some .boolean) false 1 := ⟨m_1042, m_1039, m_7, ⟨m_1041, ms_40⟩, by decide, by decide, by decide +kernel⟩
theorem cw_X5_320 : cwd RX5 320 yX5_hasLateMan cX5_hasLateMan 7 (some .boolean) false 1 := ⟨m_1057, m_1054, m_7, ⟨m_1056, ms_41⟩, by decide, by decide, by decide +kernel⟩
theorem cw_X5_323 : cwd RX5 323 yX5_hasRightRights cX5_hasRightRights 5 (some .boolean) false 1 := ⟨m_1066, m_1063, m_7, ⟨m_1065, ms_42⟩, by decide, by decide, by decide +kernel⟩
theorem cw_X5_329 : cwd RX5 329 yX5_hasRightPass cX5_hasRightPass 8 (some .boolean) false 1 := ⟨m_1075, m_1072, m_7, ⟨m_1074, ms_43⟩, by decide, by decide, by decide +kernel⟩
theorem dX5_faultOf_0 : decode cX5_faultOf 0 = .ok (.aload_n 0, 1) := by decide +kernel
theorem dX5_faultOf_1 : decode cX5_faultOf 1 = .ok (.aload_n 1, 1) := by decide +kernel
theorem dX5_faultOf_2 : decode cX5_faultOf 2 = .ok (.invokevirtual 316, 3) := by decide +kernel
theorem dX5_faultOf_5 : decode cX5_faultOf 5 = .ok (.ifCond .ne 5, 3) := by decide +kernel
theorem dX5_faultOf_8 : decode cX5_faultOf 8 = .ok (.iconst 2, 1) := by decide +kernel
theorem dX5_faultOf_9 : decode cX5_faultOf 9 = .ok (.ireturn, 1) := by decide +kernel
theorem dX5_faultOf_10 : decode cX5_faultOf 10 = .ok (.aload_n 0, 1) := by decide +kernel
theorem dX5_faultOf_11 : decode cX5_faultOf 11 = .ok (.aload_n 1, 1) := by decide +kernel
theorem dX5_faultOf_12 : decode cX5_faultOf 12 = .ok (.invokevirtual 320, 3) := by decide +kernel
theorem dX5_faultOf_15 : decode cX5_faultOf 15 = .ok (.ifCond .eq 5, 3) := by decide +kernel
theorem dX5_faultOf_18 : decode cX5_faultOf 18 = .ok (.iconst 3, 1) := by decide +kernel
theorem dX5_faultOf_19 : decode cX5_faultOf 19 = .ok (.ireturn, 1) := by decide +kernel
theorem dX5_faultOf_20 : decode cX5_faultOf 20 = .ok (.aload_n 0, 1) := by decide +kernel
theorem dX5_faultOf_21 : decode cX5_faultOf 21 = .ok (.aload_n 1, 1) := by decide +kernel
theorem dX5_faultOf_22 : decode cX5_faultOf 22 = .ok (.invokevirtual 323, 3) := by decide +kernel
theorem dX5_faultOf_25 : decode cX5_faultOf 25 = .ok (.ifCond .ne 5, 3) := by decide +kernel
theorem dX5_faultOf_28 : decode cX5_faultOf 28 = .ok (.iconst 4, 1) := by decide +kernel
theorem dX5_faultOf_29 : decode cX5_faultOf 29 = .ok (.ireturn, 1) := by decide +kernel
theorem dX5_faultOf_30 : decode cX5_faultOf 30 = .ok (.aload_n 1, 1) := by decide +kernel
theorem dX5_faultOf_31 : decode cX5_faultOf 31 = .ok (.getfield 326, 3) := by decide +kernel
theorem dX5_faultOf_34 : decode cX5_faultOf 34 = .ok (.lconst 0, 1) := by decide +kernel
theorem dX5_faultOf_35 : decode cX5_faultOf 35 = .ok (.lcmp, 1) := by decide +kernel
theorem dX5_faultOf_36 : decode cX5_faultOf 36 = .ok (.ifCond .eq 13, 3) := by decide +kernel
theorem dX5_faultOf_39 : decode cX5_faultOf 39 = .ok (.aload_n 0, 1) := by decide +kernel
theorem dX5_faultOf_40 : decode cX5_faultOf 40 = .ok (.aload_n 1, 1) := by decide +kernel
theorem dX5_faultOf_41 : decode cX5_faultOf 41 = .ok (.invokevirtual 329, 3) := by decide +kernel
theorem dX5_faultOf_44 : decode cX5_faultOf 44 = .ok (.ifCond .ne 5, 3) := by decide +kernel
theorem dX5_faultOf_47 : decode cX5_faultOf 47 = .ok (.iconst 5, 1) := by decide +kernel
theorem dX5_faultOf_48 : decode cX5_faultOf 48 = .ok (.ireturn, 1) := by decide +kernel
theorem dX5_faultOf_49 : decode cX5_faultOf 49 = .ok (.aload_n 0, 1) := by decide +kernel
theorem dX5_faultOf_50 : decode cX5_faultOf 50 = .ok (.aload_n 1, 1) := by decide +kernel
theorem dX5_faultOf_51 : decode cX5_faultOf 51 = .ok (.iconst 1, 1) := by decide +kernel
theorem dX5_faultOf_52 : decode cX5_faultOf 52 = .ok (.aload_n 1, 1) := by decide +kernel
theorem dX5_faultOf_53 : decode cX5_faultOf 53 = .ok (.getfield 78, 3) := by decide +kernel
theorem dX5_faultOf_56 : decode cX5_faultOf 56 = .ok (.isub, 1) := by decide +kernel
theorem dX5_faultOf_57 : decode cX5_faultOf 57 = .ok (.invokevirtual 279, 3) := by decide +kernel
theorem dX5_faultOf_60 : decode cX5_faultOf 60 = .ok (.ifCond .eq 6, 3) := by decide +kernel
theorem dX5_faultOf_63 : decode cX5_faultOf 63 = .ok (.bipush 6, 2) := by decide +kernel
theorem dX5_faultOf_65 : decode cX5_faultOf 65 = .ok (.ireturn, 1) := by decide +kernel
theorem dX5_faultOf_66 : decode cX5_faultOf 66 = .ok (.aload_n 0, 1) := by decide +kernel
theorem dX5_faultOf_67 : decode cX5_faultOf 67 = .ok (.getfield 22, 3) := by decide +kernel
theorem dX5_faultOf_70 : decode cX5_faultOf 70 = .ok (.getfield 276, 3) := by decide +kernel
theorem dX5_faultOf_73 : decode cX5_faultOf 73 = .ok (.ifCond .ne 24, 3) := by decide +kernel
theorem dX5_faultOf_76 : decode cX5_faultOf 76 = .ok (.aload_n 1, 1) := by decide +kernel
theorem dX5_faultOf_77 : decode cX5_faultOf 77 = .ok (.getfield 283, 3) := by decide +kernel
theorem dX5_faultOf_80 : decode cX5_faultOf 80 = .ok (.iconst 0, 1) := by decide +kernel
theorem dX5_faultOf_81 : decode cX5_faultOf 81 = .ok (.iaload, 1) := by decide +kernel
theorem dX5_faultOf_82 : decode cX5_faultOf 82 = .ok (.ifCond .ne 12, 3) := by decide +kernel
theorem dX5_faultOf_85 : decode cX5_faultOf 85 = .ok (.aload_n 1, 1) := by decide +kernel
theorem dX5_faultOf_86 : decode cX5_faultOf 86 = .ok (.getfield 283, 3) := by decide +kernel
theorem dX5_faultOf_89 : decode cX5_faultOf 89 = .ok (.iconst 1, 1) := by decide +kernel
theorem dX5_faultOf_90 : decode cX5_faultOf 90 = .ok (.iaload, 1) := by decide +kernel
theorem dX5_faultOf_91 : decode cX5_faultOf 91 = .ok (.ifCond .eq 6, 3) := by decide +kernel
theorem dX5_faultOf_94 : decode cX5_faultOf 94 = .ok (.bipush 7, 2) := by decide +kernel
theorem dX5_faultOf_96 : decode cX5_faultOf 96 = .ok (.ireturn, 1) := by decide +kernel
theorem dX5_faultOf_97 : decode cX5_faultOf 97 = .ok (.aload_n 0, 1) := by decide +kernel
theorem dX5_faultOf_98 : decode cX5_faultOf 98 = .ok (.getfield 22, 3) := by decide +kernel
theorem dX5_faultOf_101 : decode cX5_faultOf 101 = .ok (.iconst 1, 1) := by decide +kernel
theorem dX5_faultOf_102 : decode cX5_faultOf 102 = .ok (.invokevirtual 104, 3) := by decide +kernel
theorem dX5_faultOf_105 : decode cX5_faultOf 105 = .ok (.ifCond .ne 30, 3) := by decide +kernel
theorem dX5_faultOf_108 : decode cX5_faultOf 108 = .ok (.aload_n 1, 1) := by decide +kernel
theorem dX5_faultOf_109 : decode cX5_faultOf 109 = .ok (.getfield 303, 3) := by decide +kernel
theorem dX5_faultOf_112 : decode cX5_faultOf 112 = .ok (.iconst 0, 1) := by decide +kernel
theorem dX5_faultOf_113 : decode cX5_faultOf 113 = .ok (.laload, 1) := by decide +kernel
theorem dX5_faultOf_114 : decode cX5_faultOf 114 = .ok (.lconst 0, 1) := by decide +kernel
theorem dX5_faultOf_115 : decode cX5_faultOf 115 = .ok (.lcmp, 1) := by decide +kernel
theorem dX5_faultOf_116 : decode cX5_faultOf 116 = .ok (.ifCond .ne 14, 3) := by decide +kernel
theorem dX5_faultOf_119 : decode cX5_faultOf 119 = .ok (.aload_n 1, 1) := by decide +kernel
theorem dX5_faultOf_120 : decode cX5_faultOf 120 = .ok (.getfield 303, 3) := by decide +kernel
theorem dX5_faultOf_123 : decode cX5_faultOf 123 = .ok (.iconst 1, 1) := by decide +kernel
theorem dX5_faultOf_124 : decode cX5_faultOf 124 = .ok (.laload, 1) := by decide +kernel
theorem dX5_faultOf_125 : decode cX5_faultOf 125 = .ok (.lconst 0, 1) := by decide +kernel
theorem dX5_faultOf_126 : decode cX5_faultOf 126 = .ok (.lcmp, 1) := by decide +kernel
theorem dX5_faultOf_127 : decode cX5_faultOf 127 = .ok (.ifCond .eq 8, 3) := by decide +kernel
theorem dX5_faultOf_130 : decode cX5_faultOf 130 = .ok (.bipush 8, 2) := by decide +kernel
theorem dX5_faultOf_132 : decode cX5_faultOf 132 = .ok (.goto 4, 3) := by decide +kernel
theorem dX5_faultOf_135 : decode cX5_faultOf 135 = .ok (.iconst 0, 1) := by decide +kernel
theorem dX5_faultOf_136 : decode cX5_faultOf 136 = .ok (.ireturn, 1) := by decide +kernel
def sX5_faultOf_136 (F : Nat) (h : Hp) (t0 : Int32) : Option (Int32 × Hp) := some (t0, h)
def sX5_faultOf_135 (F : Nat) (h : Hp) : Option (Int32 × Hp) := sX5_faultOf_136 F h (0 : Int32)
def sX5_faultOf_130 (F : Nat) (h : Hp) : Option (Int32 × Hp) := sX5_faultOf_136 F h (8 : Int32)
def sX5_faultOf_97 (F : Nat) (h : Hp) (x0 : Nat) (x1 : Nat) : Option (Int32 × Hp) := cl (hR h x0 0) fun r_1 => cl (sX1_has h r_1 (1 : Int32)) fun o_2 => br (o_2.1 = 0) (cl (hR o_2.2 x1 3) fun r_4 => gd (inB (0 : Int32) (hN o_2.2 r_4)) <| br ((lg_cmp (hJ o_2.2 r_4 (0 : Int32).toNatClampNeg) (0 : Int64)) = 0) (cl (hR o_2.2 x1 3) fun r_7 => gd (inB (1 : Int32) (hN o_2.2 r_7)) <| br ((lg_cmp (hJ o_2.2 r_7 (1 : Int32).toNatClampNeg) (0 : Int64)) = 0) (sX5_faultOf_135 F o_2.2 ) (sX5_faultOf_130 F o_2.2 )) (sX5_faultOf_130 F o_2.2 )) (sX5_faultOf_135 F o_2.2 )
def sX5_faultOf_94 (F : Nat) (h : Hp) : Option (Int32 × Hp) := some ((7 : Int32), h)
def sX5_faultOf_49 (F : Nat) (h : Hp) (x0 : Nat) (x1 : Nat) : Option (Int32 × Hp) := cl (sX5_isRoyalHit F h x0 x1 ((1 : Int32) - (hI h x1 5))) fun o_1 => br (o_1.1 = 0) (cl (hR o_1.2 x0 0) fun r_3 => br ((hI o_1.2 r_3 7) = 0) (cl (hR o_1.2 x1 4) fun r_5 => gd (inB (0 : Int32) (hN o_1.2 r_5)) <| br ((hI o_1.2 r_5 (0 : Int32).toNatClampNeg) = 0) (cl (hR o_1.2 x1 4) fun r_8 => gd (inB (1 : Int32) (hN o_1.2 r_8)) <| br ((hI o_1.2 r_8 (1 : Int32).toNatClampNeg) = 0) (sX5_faultOf_97 F o_1.2 x0 x1) (sX5_faultOf_94 F o_1.2 )) (sX5_faultOf_94 F o_1.2 )) (sX5_faultOf_97 F o_1.2 x0 x1)) (some ((6 : Int32), o_1.2))
def sX5_faultOf (F : Nat) (h : Hp) (x0 : Nat) (x1 : Nat) : Option (Int32 × Hp) := cl (sX5_hasRightMen F h x0 x1) fun o_1 => br (o_1.1 = 0) (some ((2 : Int32), o_1.2)) (cl (sX5_hasLateMan F o_1.2 x0 x1) fun o_3 => br (o_3.1 = 0) (cl (sX5_hasRightRights F o_3.2 x0 x1) fun o_5 => br (o_5.1 = 0) (some ((4 : Int32), o_5.2)) (br ((lg_cmp (hJ o_5.2 x1 9) (0 : Int64)) = 0) (sX5_faultOf_49 F o_5.2 x0 x1) (cl (sX5_hasRightPass F o_5.2 x0 x1) fun o_8 => br (o_8.1 = 0) (some ((5 : Int32), o_8.2)) (sX5_faultOf_49 F o_8.2 x0 x1)))) (some ((3 : Int32), o_3.2)))
set_option maxRecDepth 20000 in
theorem bX5_faultOf_136 {p : Program} {l : Launch} {e : Env} {s : State} {m : MethodId} {args : Array Value} {below : List Frame} {meth : Method} {c : Code} {X : Ec} {h0 : Hp} {o : Int32 × Hp} {F : Nat} (C : Cx X p s m args meth c RX5 cX5_faultOf 2 (some .int) "faultOf") {h : Hp} {t0 : Int32} {H : Heap} {locs : List Loc} (hkm : Km h0 h) (hW : Wx X h H) (hZ : va_S (aA (eB X)) s.heap H locs) (ls : Array Slot) (hl : lv_has ls 2 []) (hE : sX5_faultOf_136 F h  t0 = some o) : W p l e (rm 3 72) s m args below meth c H locs 0 0 (MQ below (QI X h0 o.1 o.2) args s 0 0 (aA (eB X))) (F0 m 136 ls [.int t0]) := by
  exact x_iret C rfl rfl hW hZ hkm hE dX5_faultOf_136
set_option maxRecDepth 20000 in
theorem bX5_faultOf_135 {p : Program} {l : Launch} {e : Env} {s : State} {m : MethodId} {args : Array Value} {below : List Frame} {meth : Method} {c : Code} {X : Ec} {h0 : Hp} {o : Int32 × Hp} {F : Nat} (C : Cx X p s m args meth c RX5 cX5_faultOf 2 (some .int) "faultOf") {h : Hp} {H : Heap} {locs : List Loc} (hkm : Km h0 h) (hW : Wx X h H) (hZ : va_S (aA (eB X)) s.heap H locs) (ls : Array Slot) (hl : lv_has ls 2 []) (hE : sX5_faultOf_135 F h  = some o) : W p l e (rm 3 72) s m args below meth c H locs 0 0 (MQ below (QI X h0 o.1 o.2) args s 0 0 (aA (eB X))) (F0 m 135 ls []) := by
  refine lv_iconst (v := (0 : Int32)) C.1 C.2.1 dX5_faultOf_135 (by decide) ?_
  exact bX5_faultOf_136 C hkm hW hZ _ (lv_sub hl [] rfl) hE
set_option maxRecDepth 20000 in
theorem bX5_faultOf_130 {p : Program} {l : Launch} {e : Env} {s : State} {m : MethodId} {args : Array Value} {below : List Frame} {meth : Method} {c : Code} {X : Ec} {h0 : Hp} {o : Int32 × Hp} {F : Nat} (C : Cx X p s m args meth c RX5 cX5_faultOf 2 (some .int) "faultOf") {h : Hp} {H : Heap} {locs : List Loc} (hkm : Km h0 h) (hW : Wx X h H) (hZ : va_S (aA (eB X)) s.heap H locs) (ls : Array Slot) (hl : lv_has ls 2 []) (hE : sX5_faultOf_130 F h  = some o) : W p l e (rm 3 72) s m args below meth c H locs 0 0 (MQ below (QI X h0 o.1 o.2) args s 0 0 (aA (eB X))) (F0 m 130 ls []) := by
  refine lv_bipush (v := (8 : Int32)) C.1 C.2.1 dX5_faultOf_130 (by decide) ?_
  refine lv_goto (tgt := 136) C.1 C.2.1 dX5_faultOf_132 (by decide) ?_
  exact bX5_faultOf_136 C hkm hW hZ _ (lv_sub hl [] rfl) hE
set_option maxRecDepth 20000 in
theorem bX5_faultOf_97 {p : Program} {l : Launch} {e : Env} {s : State} {m : MethodId} {args : Array Value} {below : List Frame} {meth : Method} {c : Code} {X : Ec} {h0 : Hp} {o : Int32 × Hp} {F : Nat} (C : Cx X p s m args meth c RX5 cX5_faultOf 2 (some .int) "faultOf") {h : Hp} {x0 : Nat} {x1 : Nat} {H : Heap} {locs : List Loc} (k_x0 : hK h x0 = 5) (k_x1 : hK h x1 = 3) (hkm : Km h0 h) (hW : Wx X h H) (hZ : va_S (aA (eB X)) s.heap H locs) (ls : Array Slot) (hl : lv_has ls 2 [(0, .ref x0), (1, .ref x1)]) (hE : sX5_faultOf_97 F h x0 x1 = some o) : W p l e (rm 3 72) s m args below meth c H locs 0 0 (MQ below (QI X h0 o.1 o.2) args s 0 0 (aA (eB X))) (F0 m 97 ls []) := by
  refine lv_aload_n C.1 C.2.1 dX5_faultOf_97 rfl (lv_at hl 0 rfl) ?_
  obtain ⟨r_1, er_1, hE⟩ := cl_e hE
  refine gf_X5_22 C hW k_x0 er_1 dX5_faultOf_98 (fun k_r_1 => ?_)
  refine lv_iconst (v := (1 : Int32)) C.1 C.2.1 dX5_faultOf_101 (by decide) ?_
  obtain ⟨o_2, eo_2, hE⟩ := cl_e hE
  refine x_kI (o := o_2) (z_runV (As := [.int (1 : Int32)]) (rest := []) C (ct_X1_has l X k_r_1 eo_2) cw_X5_104 hW hZ k_r_1 (by decide) rfl rfl rfl hl.1 (Nat.le_of_ble_eq_true rfl) rfl dX5_faultOf_102 ⟨Nat.le_of_ble_eq_true rfl, Nat.le_of_ble_eq_true rfl⟩ ⟨Nat.le_refl _, Nat.le_refl _⟩) hZ (fun _ _ hW km hZ => ?_)
  replace hkm := hkm.tr km
  replace k_x0 := km.at k_x0 (by decide)
  replace k_x1 := km.at k_x1 (by decide)
  refine lv_if_ne (tgt := 135) C.1 C.2.1 dX5_faultOf_105 (by decide) (fun c_3 => ?_) (fun c_3 => ?_)
  · have hE := br_n hE c_3
    exact bX5_faultOf_135 C hkm hW hZ _ (lv_sub hl [] rfl) hE
  · have hE := br_p hE c_3
    refine lv_aload_n C.1 C.2.1 dX5_faultOf_108 rfl (lv_at hl 1 rfl) ?_
    obtain ⟨r_4, er_4, hE⟩ := cl_e hE
    refine gf_X5_303 C hW k_x1 er_4 dX5_faultOf_109 (fun k_r_4 => ?_)
    refine lv_iconst (v := (0 : Int32)) C.1 C.2.1 dX5_faultOf_112 (by decide) ?_
    obtain ⟨g_5, hE⟩ := gd_e hE
    refine y_lald C hW k_r_4 g_5 dX5_faultOf_113 ?_
    refine lv_lconst (v := (0 : Int64)) C.1 C.2.1 dX5_faultOf_114 (by decide) ?_
    refine W.lcmp C.1 C.2.1 dX5_faultOf_115 ?_
    refine lv_if_ne (tgt := 130) C.1 C.2.1 dX5_faultOf_116 (by decide) (fun c_6 => ?_) (fun c_6 => ?_)
    · have hE := br_n hE c_6
      exact bX5_faultOf_130 C hkm hW hZ _ (lv_sub hl [] rfl) hE
    · have hE := br_p hE c_6
      refine lv_aload_n C.1 C.2.1 dX5_faultOf_119 rfl (lv_at hl 1 rfl) ?_
      obtain ⟨r_7, er_7, hE⟩ := cl_e hE
      refine gf_X5_303 C hW k_x1 er_7 dX5_faultOf_120 (fun k_r_7 => ?_)
      refine lv_iconst (v := (1 : Int32)) C.1 C.2.1 dX5_faultOf_123 (by decide) ?_
      obtain ⟨g_8, hE⟩ := gd_e hE
      refine y_lald C hW k_r_7 g_8 dX5_faultOf_124 ?_
      refine lv_lconst (v := (0 : Int64)) C.1 C.2.1 dX5_faultOf_125 (by decide) ?_
      refine W.lcmp C.1 C.2.1 dX5_faultOf_126 ?_
      refine lv_if_eq (tgt := 135) C.1 C.2.1 dX5_faultOf_127 (by decide) (fun c_9 => ?_) (fun c_9 => ?_)
      · have hE := br_p hE c_9
        exact bX5_faultOf_135 C hkm hW hZ _ (lv_sub hl [] rfl) hE
      · have hE := br_n hE c_9
        exact bX5_faultOf_130 C hkm hW hZ _ (lv_sub hl [] rfl) hE
set_option maxRecDepth 20000 in
theorem bX5_faultOf_94 {p : Program} {l : Launch} {e : Env} {s : State} {m : MethodId} {args : Array Value} {below : List Frame} {meth : Method} {c : Code} {X : Ec} {h0 : Hp} {o : Int32 × Hp} {F : Nat} (C : Cx X p s m args meth c RX5 cX5_faultOf 2 (some .int) "faultOf") {h : Hp} {H : Heap} {locs : List Loc} (hkm : Km h0 h) (hW : Wx X h H) (hZ : va_S (aA (eB X)) s.heap H locs) (ls : Array Slot) (hl : lv_has ls 2 []) (hE : sX5_faultOf_94 F h  = some o) : W p l e (rm 3 72) s m args below meth c H locs 0 0 (MQ below (QI X h0 o.1 o.2) args s 0 0 (aA (eB X))) (F0 m 94 ls []) := by
  refine lv_bipush (v := (7 : Int32)) C.1 C.2.1 dX5_faultOf_94 (by decide) ?_
  exact x_iret C rfl rfl hW hZ hkm hE dX5_faultOf_96
set_option maxRecDepth 20000 in
theorem bX5_faultOf_49 {p : Program} {l : Launch} {e : Env} {s : State} {m : MethodId} {args : Array Value} {below : List Frame} {meth : Method} {c : Code} {X : Ec} {h0 : Hp} {o : Int32 × Hp} {F : Nat} (C : Cx X p s m args meth c RX5 cX5_faultOf 2 (some .int) "faultOf") {h : Hp} {x0 : Nat} {x1 : Nat} {H : Heap} {locs : List Loc} (k_x0 : hK h x0 = 5) (k_x1 : hK h x1 = 3) (hkm : Km h0 h) (hW : Wx X h H) (hZ : va_S (aA (eB X)) s.heap H locs) (ls : Array Slot) (hl : lv_has ls 2 [(0, .ref x0), (1, .ref x1)]) (hE : sX5_faultOf_49 F h x0 x1 = some o) : W p l e (rm 3 72) s m args below meth c H locs 0 0 (MQ below (QI X h0 o.1 o.2) args s 0 0 (aA (eB X))) (F0 m 49 ls []) := by
  refine lv_aload_n C.1 C.2.1 dX5_faultOf_49 rfl (lv_at hl 0 rfl) ?_
  refine lv_aload_n C.1 C.2.1 dX5_faultOf_50 rfl (lv_at hl 1 rfl) ?_
  refine lv_iconst (v := (1 : Int32)) C.1 C.2.1 dX5_faultOf_51 (by decide) ?_
  refine lv_aload_n C.1 C.2.1 dX5_faultOf_52 rfl (lv_at hl 1 rfl) ?_
  refine gf_X5_78 C hW k_x1 dX5_faultOf_53 ?_
  refine lv_isub C.1 C.2.1 dX5_faultOf_56 ?_
  obtain ⟨o_1, eo_1, hE⟩ := cl_e hE
  refine x_kI (o := o_1) (z_runV (As := [.ref x1, .int ((1 : Int32) - (hI h x1 5))]) (rest := []) C (ct_X5_isRoyalHit l X F k_x0 k_x1 eo_1) cw_X5_279 hW hZ k_x0 (by decide) rfl rfl rfl hl.1 (Nat.le_of_ble_eq_true rfl) rfl dX5_faultOf_57 ⟨Nat.le_of_ble_eq_true rfl, Nat.le_of_ble_eq_true rfl⟩ ⟨Nat.le_refl _, Nat.le_refl _⟩) hZ (fun _ _ hW km hZ => ?_)
  replace hkm := hkm.tr km
  replace k_x0 := km.at k_x0 (by decide)
  replace k_x1 := km.at k_x1 (by decide)
  refine lv_if_eq (tgt := 66) C.1 C.2.1 dX5_faultOf_60 (by decide) (fun c_2 => ?_) (fun c_2 => ?_)
  · have hE := br_p hE c_2
    refine lv_aload_n C.1 C.2.1 dX5_faultOf_66 rfl (lv_at hl 0 rfl) ?_
    obtain ⟨r_3, er_3, hE⟩ := cl_e hE
    refine gf_X5_22 C hW k_x0 er_3 dX5_faultOf_67 (fun k_r_3 => ?_)
    refine gf_X5_276 C hW k_r_3 dX5_faultOf_70 ?_
    refine lv_if_ne (tgt := 97) C.1 C.2.1 dX5_faultOf_73 (by decide) (fun c_4 => ?_) (fun c_4 => ?_)
    · have hE := br_n hE c_4
      exact bX5_faultOf_97 C k_x0 k_x1 hkm hW hZ _ (lv_sub hl [0, 1] rfl) hE
    · have hE := br_p hE c_4
      refine lv_aload_n C.1 C.2.1 dX5_faultOf_76 rfl (lv_at hl 1 rfl) ?_
      obtain ⟨r_5, er_5, hE⟩ := cl_e hE
      refine gf_X5_283 C hW k_x1 er_5 dX5_faultOf_77 (fun k_r_5 => ?_)
      refine lv_iconst (v := (0 : Int32)) C.1 C.2.1 dX5_faultOf_80 (by decide) ?_
      obtain ⟨g_6, hE⟩ := gd_e hE
      refine y_iald C hW k_r_5 g_6 dX5_faultOf_81 ?_
      refine lv_if_ne (tgt := 94) C.1 C.2.1 dX5_faultOf_82 (by decide) (fun c_7 => ?_) (fun c_7 => ?_)
      · have hE := br_n hE c_7
        exact bX5_faultOf_94 C hkm hW hZ _ (lv_sub hl [] rfl) hE
      · have hE := br_p hE c_7
        refine lv_aload_n C.1 C.2.1 dX5_faultOf_85 rfl (lv_at hl 1 rfl) ?_
        obtain ⟨r_8, er_8, hE⟩ := cl_e hE
        refine gf_X5_283 C hW k_x1 er_8 dX5_faultOf_86 (fun k_r_8 => ?_)
        refine lv_iconst (v := (1 : Int32)) C.1 C.2.1 dX5_faultOf_89 (by decide) ?_
        obtain ⟨g_9, hE⟩ := gd_e hE
        refine y_iald C hW k_r_8 g_9 dX5_faultOf_90 ?_
        refine lv_if_eq (tgt := 97) C.1 C.2.1 dX5_faultOf_91 (by decide) (fun c_10 => ?_) (fun c_10 => ?_)
        · have hE := br_p hE c_10
          exact bX5_faultOf_97 C k_x0 k_x1 hkm hW hZ _ (lv_sub hl [0, 1] rfl) hE
        · have hE := br_n hE c_10
          exact bX5_faultOf_94 C hkm hW hZ _ (lv_sub hl [] rfl) hE
  · have hE := br_n hE c_2
    refine lv_bipush (v := (6 : Int32)) C.1 C.2.1 dX5_faultOf_63 (by decide) ?_
    exact x_iret C rfl rfl hW hZ hkm hE dX5_faultOf_65
set_option maxRecDepth 20000 in
theorem ct_X5_faultOf (l : Launch) (X : Ec) (F : Nat) {h : Hp} {x0 : Nat} {x1 : Nat} {o : Int32 × Hp} (k_x0 : hK h x0 = 5) (k_x1 : hK h x1 = 3) (hE : sX5_faultOf F h x0 x1 = some o) : MetI l yX5_faultOf cX5_faultOf 2 (some .int) 3 72 X [.ref x0, .ref x1] h o := by
  refine x_met (by decide) (Nat.le_of_ble_eq_true rfl) ?_
  intro p e s m below meth c ls C hl hW hZ
  have hl : lv_has ls 2 [(0, .ref x0), (1, .ref x1)] := hl
  have hkm : Km h h := Km.rf h
  refine lv_aload_n C.1 C.2.1 dX5_faultOf_0 rfl (lv_at hl 0 rfl) ?_
  refine lv_aload_n C.1 C.2.1 dX5_faultOf_1 rfl (lv_at hl 1 rfl) ?_
  obtain ⟨o_1, eo_1, hE⟩ := cl_e hE
  refine x_kI (o := o_1) (z_runV (As := [.ref x1]) (rest := []) C (ct_X5_hasRightMen l X F k_x0 k_x1 eo_1) cw_X5_316 hW hZ k_x0 (by decide) rfl rfl rfl hl.1 (Nat.le_of_ble_eq_true rfl) rfl dX5_faultOf_2 ⟨Nat.le_of_ble_eq_true rfl, Nat.le_of_ble_eq_true rfl⟩ ⟨Nat.le_refl _, Nat.le_refl _⟩) hZ (fun _ _ hW km hZ => ?_)
  replace hkm := hkm.tr km
  replace k_x0 := km.at k_x0 (by decide)
  replace k_x1 := km.at k_x1 (by decide)
  refine lv_if_ne (tgt := 10) C.1 C.2.1 dX5_faultOf_5 (by decide) (fun c_2 => ?_) (fun c_2 => ?_)
  · have hE := br_n hE c_2
    refine lv_aload_n C.1 C.2.1 dX5_faultOf_10 rfl (lv_at hl 0 rfl) ?_
    refine lv_aload_n C.1 C.2.1 dX5_faultOf_11 rfl (lv_at hl 1 rfl) ?_
    obtain ⟨o_3, eo_3, hE⟩ := cl_e hE
    refine x_kI (o := o_3) (z_runV (As := [.ref x1]) (rest := []) C (ct_X5_hasLateMan l X F k_x0 k_x1 eo_3) cw_X5_320 hW hZ k_x0 (by decide) rfl rfl rfl hl.1 (Nat.le_of_ble_eq_true rfl) rfl dX5_faultOf_12 ⟨Nat.le_of_ble_eq_true rfl, Nat.le_of_ble_eq_true rfl⟩ ⟨Nat.le_refl _, Nat.le_refl _⟩) hZ (fun _ _ hW km hZ => ?_)
    replace hkm := hkm.tr km
    replace k_x0 := km.at k_x0 (by decide)
    replace k_x1 := km.at k_x1 (by decide)
    refine lv_if_eq (tgt := 20) C.1 C.2.1 dX5_faultOf_15 (by decide) (fun c_4 => ?_) (fun c_4 => ?_)
    · have hE := br_p hE c_4
      refine lv_aload_n C.1 C.2.1 dX5_faultOf_20 rfl (lv_at hl 0 rfl) ?_
      refine lv_aload_n C.1 C.2.1 dX5_faultOf_21 rfl (lv_at hl 1 rfl) ?_
      obtain ⟨o_5, eo_5, hE⟩ := cl_e hE
      refine x_kI (o := o_5) (z_runV (As := [.ref x1]) (rest := []) C (ct_X5_hasRightRights l X F k_x0 k_x1 eo_5) cw_X5_323 hW hZ k_x0 (by decide) rfl rfl rfl hl.1 (Nat.le_of_ble_eq_true rfl) rfl dX5_faultOf_22 ⟨Nat.le_of_ble_eq_true rfl, Nat.le_of_ble_eq_true rfl⟩ ⟨Nat.le_refl _, Nat.le_refl _⟩) hZ (fun _ _ hW km hZ => ?_)
      replace hkm := hkm.tr km
      replace k_x0 := km.at k_x0 (by decide)
      replace k_x1 := km.at k_x1 (by decide)
      refine lv_if_ne (tgt := 30) C.1 C.2.1 dX5_faultOf_25 (by decide) (fun c_6 => ?_) (fun c_6 => ?_)
      · have hE := br_n hE c_6
        refine lv_aload_n C.1 C.2.1 dX5_faultOf_30 rfl (lv_at hl 1 rfl) ?_
        refine gf_X5_326 C hW k_x1 dX5_faultOf_31 ?_
        refine lv_lconst (v := (0 : Int64)) C.1 C.2.1 dX5_faultOf_34 (by decide) ?_
        refine W.lcmp C.1 C.2.1 dX5_faultOf_35 ?_
        refine lv_if_eq (tgt := 49) C.1 C.2.1 dX5_faultOf_36 (by decide) (fun c_7 => ?_) (fun c_7 => ?_)
        · have hE := br_p hE c_7
          exact bX5_faultOf_49 C k_x0 k_x1 hkm hW hZ _ (lv_sub hl [0, 1] rfl) hE
        · have hE := br_n hE c_7
          refine lv_aload_n C.1 C.2.1 dX5_faultOf_39 rfl (lv_at hl 0 rfl) ?_
          refine lv_aload_n C.1 C.2.1 dX5_faultOf_40 rfl (lv_at hl 1 rfl) ?_
          obtain ⟨o_8, eo_8, hE⟩ := cl_e hE
          refine x_kI (o := o_8) (z_runV (As := [.ref x1]) (rest := []) C (ct_X5_hasRightPass l X F k_x0 k_x1 eo_8) cw_X5_329 hW hZ k_x0 (by decide) rfl rfl rfl hl.1 (Nat.le_of_ble_eq_true rfl) rfl dX5_faultOf_41 ⟨Nat.le_of_ble_eq_true rfl, Nat.le_of_ble_eq_true rfl⟩ ⟨Nat.le_refl _, Nat.le_refl _⟩) hZ (fun _ _ hW km hZ => ?_)
          replace hkm := hkm.tr km
          replace k_x0 := km.at k_x0 (by decide)
          replace k_x1 := km.at k_x1 (by decide)
          refine lv_if_ne (tgt := 49) C.1 C.2.1 dX5_faultOf_44 (by decide) (fun c_9 => ?_) (fun c_9 => ?_)
          · have hE := br_n hE c_9
            exact bX5_faultOf_49 C k_x0 k_x1 hkm hW hZ _ (lv_sub hl [0, 1] rfl) hE
          · have hE := br_p hE c_9
            refine lv_iconst (v := (5 : Int32)) C.1 C.2.1 dX5_faultOf_47 (by decide) ?_
            exact x_iret C rfl rfl hW hZ hkm hE dX5_faultOf_48
      · have hE := br_p hE c_6
        refine lv_iconst (v := (4 : Int32)) C.1 C.2.1 dX5_faultOf_28 (by decide) ?_
        exact x_iret C rfl rfl hW hZ hkm hE dX5_faultOf_29
    · have hE := br_n hE c_4
      refine lv_iconst (v := (3 : Int32)) C.1 C.2.1 dX5_faultOf_18 (by decide) ?_
      exact x_iret C rfl rfl hW hZ hkm hE dX5_faultOf_19
  · have hE := br_p hE c_2
    refine lv_iconst (v := (2 : Int32)) C.1 C.2.1 dX5_faultOf_8 (by decide) ?_
    exact x_iret C rfl rfl hW hZ hkm hE dX5_faultOf_9
theorem m_348 : Cond.fieldLink RX5 71 (TX5 4).1 (TX5 4).2.1 (TX5 4).2.2.1 ∈ W0 := w0_in (List.mem_append_right _ (List.mem_of_getElem? (i := 348) (by decide +kernel))) rfl
theorem m_352 : Cond.fieldLink RX5 126 (TX5 8).1 (TX5 8).2.1 (TX5 8).2.2.1 ∈ W0 := w0_in (List.mem_append_right _ (List.mem_of_getElem? (i := 352) (by decide +kernel))) rfl
theorem m_353 : Cond.fieldLink RX5 132 (TX5 9).1 (TX5 9).2.1 (TX5 9).2.2.1 ∈ W0 := w0_in (List.mem_append_right _ (List.mem_of_getElem? (i := 353) (by decide +kernel))) rfl
theorem m_1172 : Cond.methodLink RX5 146 yX10_isOpen ∈ W0 := w0_in (List.mem_append_right _ (List.mem_of_getElem? (i := 1172) (by decide +kernel))) rfl
section
variable {p : Program} {l : Launch} {e : Env} {R : Room} {s : State} {m : MethodId} {args : Array Value} {below : List Frame} {meth : Method} {c : Code} {H : Heap} {locs : List Loc} {cells slots : Nat} {Q : State → Prop}
variable {cc : ByteArray} {pc : Nat} {ls : Array Slot} {rest : List Value} {X : Ec} {h h1 : Hp} {nL : Nat} {rt : Option FieldType} {mn : String}
theorem pf_X5_132 {a : Nat} {v : Int32} (C : Cx X p s m args meth c RX5 cc nL rt mn) (hW : Wx X h H) (hZ : va_S (aA (eB X)) s.heap H locs) (ha : hK h a = 5) (hn : narrow .boolean (.int v) = .int v) (eh : h1 = wI h a 9 v) (hdg : decode cc pc = .ok (.putfield 132, 3)) (kk : ∀ (H1 : Heap) (locs1 : List Loc), Wx X h1 H1 → Km h h1 → va_S (aA (eB X)) s.heap H1 locs1 → W p l e R s m args below meth c H1 locs1 cells slots Q (F0 m (pc + 3) ls rest)) : W p l e R s m args below meth c H locs cells slots Q (F0 m pc ls (.int v :: .ref a :: rest)) :=
  y_puti (ty := .boolean) C hW hZ ha i_X5 tyX5 tyX5_ok nmX5 (by decide) rfl rfl (by decide) m_353 rfl (by decide +kernel) rfl hn (fitZ hn) eh hdg kk
theorem gf_X5_126 {a : Nat} (C : Cx X p s m args meth c RX5 cc nL rt mn) (hW : Wx X h H) (ha : hK h a = 5) (hdg : decode cc pc = .ok (.getfield 126, 3)) (kk : W p l e R s m args below meth c H locs cells slots Q (F0 m (pc + 3) ls (.long (hJ h a 8) :: rest))) : W p l e R s m args below meth c H locs cells slots Q (F0 m pc ls (.ref a :: rest)) :=
  y_getj C hW ha i_X5 (by decide) rfl (by decide) m_352 rfl hdg kk
theorem pf_X5_126 {a : Nat} {v : Int64} (C : Cx X p s m args meth c RX5 cc nL rt mn) (hW : Wx X h H) (hZ : va_S (aA (eB X)) s.heap H locs) (ha : hK h a = 5) (eh : h1 = wJ h a 8 v) (hdg : decode cc pc = .ok (.putfield 126, 3)) (kk : ∀ (H1 : Heap) (locs1 : List Loc), Wx X h1 H1 → Km h h1 → va_S (aA (eB X)) s.heap H1 locs1 → W p l e R s m args below meth c H1 locs1 cells slots Q (F0 m (pc + 3) ls rest)) : W p l e R s m args below meth c H locs cells slots Q (F0 m pc ls (.long v :: .ref a :: rest)) :=
  y_putj C hW hZ ha i_X5 tyX5 tyX5_ok nmX5 (by decide) rfl rfl (by decide) m_352 rfl (by decide +kernel) rfl eh hdg kk
theorem gf_X5_132 {a : Nat} (C : Cx X p s m args meth c RX5 cc nL rt mn) (hW : Wx X h H) (ha : hK h a = 5) (hdg : decode cc pc = .ok (.getfield 132, 3)) (kk : W p l e R s m args below meth c H locs cells slots Q (F0 m (pc + 3) ls (.int (hI h a 9) :: rest))) : W p l e R s m args below meth c H locs cells slots Q (F0 m pc ls (.ref a :: rest)) :=
  y_geti C hW ha i_X5 (by decide) rfl (by decide) m_353 rfl hdg kk
theorem gf_X5_71 {a r : Nat} (C : Cx X p s m args meth c RX5 cc nL rt mn) (hW : Wx X h H) (ha : hK h a = 5) (hr : hR h a 4 = some r) (hdg : decode cc pc = .ok (.getfield 71, 3)) (kk : hK h r = 3 → W p l e R s m args below meth c H locs cells slots Q (F0 m (pc + 3) ls (.ref r :: rest))) : W p l e R s m args below meth c H locs cells slots Q (F0 m pc ls (.ref a :: rest)) :=
  y_getr C hW ha i_X5 (by decide) rfl (by decide) m_348 rfl rfl hr hdg kk
end
theorem cw_X5_146 : cwd RX5 146 yX10_isOpen cX10_isOpen 6 (some .boolean) false 2 := ⟨m_1175, m_1172, m_6, ⟨m_1173, m_1174⟩, by decide, by decide, by decide +kernel⟩
theorem dX5_survey_0 : decode cX5_survey 0 = .ok (.aload_n 0, 1) := by decide +kernel
theorem dX5_survey_1 : decode cX5_survey 1 = .ok (.getfield 71, 3) := by decide +kernel
theorem dX5_survey_4 : decode cX5_survey 4 = .ok (.invokevirtual 138, 3) := by decide +kernel
theorem dX5_survey_7 : decode cX5_survey 7 = .ok (.lstore_n 2, 1) := by decide +kernel
theorem dX5_survey_8 : decode cX5_survey 8 = .ok (.aload_n 0, 1) := by decide +kernel
theorem dX5_survey_9 : decode cX5_survey 9 = .ok (.getfield 71, 3) := by decide +kernel
theorem dX5_survey_12 : decode cX5_survey 12 = .ok (.getfield 33, 3) := by decide +kernel
theorem dX5_survey_15 : decode cX5_survey 15 = .ok (.iconst 1, 1) := by decide +kernel
theorem dX5_survey_16 : decode cX5_survey 16 = .ok (.aload_n 0, 1) := by decide +kernel
theorem dX5_survey_17 : decode cX5_survey 17 = .ok (.getfield 71, 3) := by decide +kernel
theorem dX5_survey_20 : decode cX5_survey 20 = .ok (.getfield 78, 3) := by decide +kernel
theorem dX5_survey_23 : decode cX5_survey 23 = .ok (.isub, 1) := by decide +kernel
theorem dX5_survey_24 : decode cX5_survey 24 = .ok (.laload, 1) := by decide +kernel
theorem dX5_survey_25 : decode cX5_survey 25 = .ok (.lstore 4, 2) := by decide +kernel
theorem dX5_survey_27 : decode cX5_survey 27 = .ok (.iconst 0, 1) := by decide +kernel
theorem dX5_survey_28 : decode cX5_survey 28 = .ok (.istore 6, 2) := by decide +kernel
theorem dX5_survey_30 : decode cX5_survey 30 = .ok (.iload 6, 2) := by decide +kernel
theorem dX5_survey_32 : decode cX5_survey 32 = .ok (.bipush 64, 2) := by decide +kernel
theorem dX5_survey_34 : decode cX5_survey 34 = .ok (.if_icmp .ge 196, 3) := by decide +kernel
theorem dX5_survey_37 : decode cX5_survey 37 = .ok (.lload 4, 2) := by decide +kernel
theorem dX5_survey_39 : decode cX5_survey 39 = .ok (.lconst 0, 1) := by decide +kernel
theorem dX5_survey_40 : decode cX5_survey 40 = .ok (.lcmp, 1) := by decide +kernel
theorem dX5_survey_41 : decode cX5_survey 41 = .ok (.ifCond .eq 189, 3) := by decide +kernel
theorem dX5_survey_44 : decode cX5_survey 44 = .ok (.lload 4, 2) := by decide +kernel
theorem dX5_survey_46 : decode cX5_survey 46 = .ok (.lload 4, 2) := by decide +kernel
theorem dX5_survey_48 : decode cX5_survey 48 = .ok (.lneg, 1) := by decide +kernel
theorem dX5_survey_49 : decode cX5_survey 49 = .ok (.land, 1) := by decide +kernel
theorem dX5_survey_50 : decode cX5_survey 50 = .ok (.lstore 7, 2) := by decide +kernel
theorem dX5_survey_52 : decode cX5_survey 52 = .ok (.lload 4, 2) := by decide +kernel
theorem dX5_survey_54 : decode cX5_survey 54 = .ok (.lload 7, 2) := by decide +kernel
theorem dX5_survey_56 : decode cX5_survey 56 = .ok (.lxor, 1) := by decide +kernel
theorem dX5_survey_57 : decode cX5_survey 57 = .ok (.lstore 4, 2) := by decide +kernel
theorem dX5_survey_59 : decode cX5_survey 59 = .ok (.getstatic 37, 3) := by decide +kernel
theorem dX5_survey_62 : decode cX5_survey 62 = .ok (.lload 7, 2) := by decide +kernel
theorem dX5_survey_64 : decode cX5_survey 64 = .ok (.ldc2_w 40, 3) := by decide +kernel
theorem dX5_survey_67 : decode cX5_survey 67 = .ok (.lmul, 1) := by decide +kernel
theorem dX5_survey_68 : decode cX5_survey 68 = .ok (.bipush 58, 2) := by decide +kernel
theorem dX5_survey_70 : decode cX5_survey 70 = .ok (.lushr, 1) := by decide +kernel
theorem dX5_survey_71 : decode cX5_survey 71 = .ok (.l2i, 1) := by decide +kernel
theorem dX5_survey_72 : decode cX5_survey 72 = .ok (.iaload, 1) := by decide +kernel
theorem dX5_survey_73 : decode cX5_survey 73 = .ok (.istore 9, 2) := by decide +kernel
theorem dX5_survey_75 : decode cX5_survey 75 = .ok (.aload_n 0, 1) := by decide +kernel
theorem dX5_survey_76 : decode cX5_survey 76 = .ok (.getfield 71, 3) := by decide +kernel
theorem dX5_survey_79 : decode cX5_survey 79 = .ok (.getfield 42, 3) := by decide +kernel
theorem dX5_survey_82 : decode cX5_survey 82 = .ok (.iload 9, 2) := by decide +kernel
theorem dX5_survey_84 : decode cX5_survey 84 = .ok (.baload, 1) := by decide +kernel
theorem dX5_survey_85 : decode cX5_survey 85 = .ok (.istore 10, 2) := by decide +kernel
theorem dX5_survey_87 : decode cX5_survey 87 = .ok (.aload_n 0, 1) := by decide +kernel
theorem dX5_survey_88 : decode cX5_survey 88 = .ok (.getfield 26, 3) := by decide +kernel
theorem dX5_survey_91 : decode cX5_survey 91 = .ok (.getfield 46, 3) := by decide +kernel
theorem dX5_survey_94 : decode cX5_survey 94 = .ok (.iload 10, 2) := by decide +kernel
theorem dX5_survey_96 : decode cX5_survey 96 = .ok (.bipush 64, 2) := by decide +kernel
theorem dX5_survey_98 : decode cX5_survey 98 = .ok (.imul, 1) := by decide +kernel
theorem dX5_survey_99 : decode cX5_survey 99 = .ok (.iload_n 1, 1) := by decide +kernel
theorem dX5_survey_100 : decode cX5_survey 100 = .ok (.iadd, 1) := by decide +kernel
theorem dX5_survey_101 : decode cX5_survey 101 = .ok (.laload, 1) := by decide +kernel
theorem dX5_survey_102 : decode cX5_survey 102 = .ok (.lload 7, 2) := by decide +kernel
theorem dX5_survey_104 : decode cX5_survey 104 = .ok (.land, 1) := by decide +kernel
theorem dX5_survey_105 : decode cX5_survey 105 = .ok (.lconst 0, 1) := by decide +kernel
theorem dX5_survey_106 : decode cX5_survey 106 = .ok (.lcmp, 1) := by decide +kernel
theorem dX5_survey_107 : decode cX5_survey 107 = .ok (.ifCond .ne 6, 3) := by decide +kernel
theorem dX5_survey_110 : decode cX5_survey 110 = .ok (.goto 114, 3) := by decide +kernel
theorem dX5_survey_113 : decode cX5_survey 113 = .ok (.iload 10, 2) := by decide +kernel
theorem dX5_survey_115 : decode cX5_survey 115 = .ok (.iload 9, 2) := by decide +kernel
theorem dX5_survey_117 : decode cX5_survey 117 = .ok (.iload_n 1, 1) := by decide +kernel
theorem dX5_survey_118 : decode cX5_survey 118 = .ok (.invokestatic 142, 3) := by decide +kernel
theorem dX5_survey_121 : decode cX5_survey 121 = .ok (.istore 11, 2) := by decide +kernel
theorem dX5_survey_123 : decode cX5_survey 123 = .ok (.aload_n 0, 1) := by decide +kernel
theorem dX5_survey_124 : decode cX5_survey 124 = .ok (.getfield 26, 3) := by decide +kernel
theorem dX5_survey_127 : decode cX5_survey 127 = .ok (.getfield 51, 3) := by decide +kernel
theorem dX5_survey_130 : decode cX5_survey 130 = .ok (.iload 11, 2) := by decide +kernel
theorem dX5_survey_132 : decode cX5_survey 132 = .ok (.iaload, 1) := by decide +kernel
theorem dX5_survey_133 : decode cX5_survey 133 = .ok (.istore 12, 2) := by decide +kernel
theorem dX5_survey_135 : decode cX5_survey 135 = .ok (.iload 12, 2) := by decide +kernel
theorem dX5_survey_137 : decode cX5_survey 137 = .ok (.aload_n 0, 1) := by decide +kernel
theorem dX5_survey_138 : decode cX5_survey 138 = .ok (.getfield 26, 3) := by decide +kernel
theorem dX5_survey_141 : decode cX5_survey 141 = .ok (.getfield 51, 3) := by decide +kernel
theorem dX5_survey_144 : decode cX5_survey 144 = .ok (.iload 11, 2) := by decide +kernel
theorem dX5_survey_146 : decode cX5_survey 146 = .ok (.iconst 1, 1) := by decide +kernel
theorem dX5_survey_147 : decode cX5_survey 147 = .ok (.iadd, 1) := by decide +kernel
theorem dX5_survey_148 : decode cX5_survey 148 = .ok (.iaload, 1) := by decide +kernel
theorem dX5_survey_149 : decode cX5_survey 149 = .ok (.if_icmp .ge 75, 3) := by decide +kernel
theorem dX5_survey_152 : decode cX5_survey 152 = .ok (.aload_n 0, 1) := by decide +kernel
theorem dX5_survey_153 : decode cX5_survey 153 = .ok (.getfield 26, 3) := by decide +kernel
theorem dX5_survey_156 : decode cX5_survey 156 = .ok (.getfield 54, 3) := by decide +kernel
theorem dX5_survey_159 : decode cX5_survey 159 = .ok (.iload 12, 2) := by decide +kernel
theorem dX5_survey_161 : decode cX5_survey 161 = .ok (.iaload, 1) := by decide +kernel
theorem dX5_survey_162 : decode cX5_survey 162 = .ok (.bipush 6, 2) := by decide +kernel
theorem dX5_survey_164 : decode cX5_survey 164 = .ok (.ishr, 1) := by decide +kernel
theorem dX5_survey_165 : decode cX5_survey 165 = .ok (.iconst 1, 1) := by decide +kernel
theorem dX5_survey_166 : decode cX5_survey 166 = .ok (.iand, 1) := by decide +kernel
theorem dX5_survey_167 : decode cX5_survey 167 = .ok (.ifCond .ne 51, 3) := by decide +kernel
theorem dX5_survey_170 : decode cX5_survey 170 = .ok (.aload_n 0, 1) := by decide +kernel
theorem dX5_survey_171 : decode cX5_survey 171 = .ok (.dup, 1) := by decide +kernel
theorem dX5_survey_172 : decode cX5_survey 172 = .ok (.getfield 126, 3) := by decide +kernel
theorem dX5_survey_175 : decode cX5_survey 175 = .ok (.aload_n 0, 1) := by decide +kernel
theorem dX5_survey_176 : decode cX5_survey 176 = .ok (.getfield 26, 3) := by decide +kernel
theorem dX5_survey_179 : decode cX5_survey 179 = .ok (.getfield 57, 3) := by decide +kernel
theorem dX5_survey_182 : decode cX5_survey 182 = .ok (.iload 12, 2) := by decide +kernel
theorem dX5_survey_184 : decode cX5_survey 184 = .ok (.laload, 1) := by decide +kernel
theorem dX5_survey_185 : decode cX5_survey 185 = .ok (.lor, 1) := by decide +kernel
theorem dX5_survey_186 : decode cX5_survey 186 = .ok (.putfield 126, 3) := by decide +kernel
theorem dX5_survey_189 : decode cX5_survey 189 = .ok (.aload_n 0, 1) := by decide +kernel
theorem dX5_survey_190 : decode cX5_survey 190 = .ok (.aload_n 0, 1) := by decide +kernel
theorem dX5_survey_191 : decode cX5_survey 191 = .ok (.getfield 132, 3) := by decide +kernel
theorem dX5_survey_194 : decode cX5_survey 194 = .ok (.ifCond .eq 20, 3) := by decide +kernel
theorem dX5_survey_197 : decode cX5_survey 197 = .ok (.aload_n 0, 1) := by decide +kernel
theorem dX5_survey_198 : decode cX5_survey 198 = .ok (.getfield 26, 3) := by decide +kernel
theorem dX5_survey_201 : decode cX5_survey 201 = .ok (.iload 12, 2) := by decide +kernel
theorem dX5_survey_203 : decode cX5_survey 203 = .ok (.lload_n 2, 1) := by decide +kernel
theorem dX5_survey_204 : decode cX5_survey 204 = .ok (.invokevirtual 146, 3) := by decide +kernel
theorem dX5_survey_207 : decode cX5_survey 207 = .ok (.ifCond .ne 7, 3) := by decide +kernel
theorem dX5_survey_210 : decode cX5_survey 210 = .ok (.iconst 1, 1) := by decide +kernel
theorem dX5_survey_211 : decode cX5_survey 211 = .ok (.goto 4, 3) := by decide +kernel
theorem dX5_survey_214 : decode cX5_survey 214 = .ok (.iconst 0, 1) := by decide +kernel
theorem dX5_survey_215 : decode cX5_survey 215 = .ok (.putfield 132, 3) := by decide +kernel
theorem dX5_survey_218 : decode cX5_survey 218 = .ok (.iinc 12 1, 3) := by decide +kernel
theorem dX5_survey_221 : decode cX5_survey 221 = .ok (.goto (-86), 3) := by decide +kernel
theorem dX5_survey_224 : decode cX5_survey 224 = .ok (.iinc 6 1, 3) := by decide +kernel
theorem dX5_survey_227 : decode cX5_survey 227 = .ok (.goto (-197), 3) := by decide +kernel
theorem dX5_survey_230 : decode cX5_survey 230 = .ok (.return_, 1) := by decide +kernel
def sX5_survey_230 (F : Nat) (h : Hp) : Option (Hp) := some h
def sX5_survey_224 (F : Nat) (k_30 : Hp → Nat → Int32 → Int64 → Int64 → Int32 → Option (Hp)) (h : Hp) (x0 : Nat) (x1 : Int32) (x2 : Int64) (x4 : Int64) (x6 : Int32) : Option (Hp) := nm (x6 + (1 : Int32)) fun v_1 => k_30 h x0 x1 x2 x4 v_1
def sX5_survey_218 (F : Nat) (k_30 : Hp → Nat → Int32 → Int64 → Int64 → Int32 → Option (Hp)) (k_135 : Hp → Nat → Int32 → Int64 → Int64 → Int32 → Int32 → Int32 → Option (Hp)) (h : Hp) (x0 : Nat) (x1 : Int32) (x2 : Int64) (x4 : Int64) (x6 : Int32) (x11 : Int32) (x12 : Int32) : Option (Hp) := nm (x12 + (1 : Int32)) fun v_1 => k_135 h x0 x1 x2 x4 x6 x11 v_1
def sX5_survey_215 (F : Nat) (k_30 : Hp → Nat → Int32 → Int64 → Int64 → Int32 → Option (Hp)) (k_135 : Hp → Nat → Int32 → Int64 → Int64 → Int32 → Int32 → Int32 → Option (Hp)) (h : Hp) (x0 : Nat) (x1 : Int32) (x2 : Int64) (x4 : Int64) (x6 : Int32) (x11 : Int32) (x12 : Int32) (t0 : Int32) (t1 : Nat) : Option (Hp) := gd (t0 &&& 1 = t0) <| nm (wI h t1 9 t0) fun h_2 => sX5_survey_218 F k_30 k_135 h_2 x0 x1 x2 x4 x6 x11 x12
def sX5_survey_214 (F : Nat) (k_30 : Hp → Nat → Int32 → Int64 → Int64 → Int32 → Option (Hp)) (k_135 : Hp → Nat → Int32 → Int64 → Int64 → Int32 → Int32 → Int32 → Option (Hp)) (h : Hp) (x0 : Nat) (x1 : Int32) (x2 : Int64) (x4 : Int64) (x6 : Int32) (x11 : Int32) (x12 : Int32) (t0 : Nat) : Option (Hp) := sX5_survey_215 F k_30 k_135 h x0 x1 x2 x4 x6 x11 x12 (0 : Int32) t0
def sX5_survey_135 (F : Nat) (k_30 : Hp → Nat → Int32 → Int64 → Int64 → Int32 → Option (Hp)) : Nat → Hp → Nat → Int32 → Int64 → Int64 → Int32 → Int32 → Int32 → Option (Hp)
  | 0, _, _, _, _, _, _, _, _ => none
  | f + 1, h, x0, x1, x2, x4, x6, x11, x12 => cl (hR h x0 1) fun r_1 => cl (hR h r_1 0) fun r_2 => gd (inB (x11 + (1 : Int32)) (hN h r_2)) <| br ((hI h r_2 (x11 + (1 : Int32)).toNatClampNeg) ≤ x12) (sX5_survey_224 F k_30 h x0 x1 x2 x4 x6) (cl (hR h x0 1) fun r_5 => cl (hR h r_5 1) fun r_6 => gd (inB x12 (hN h r_6)) <| br ((((hI h r_6 x12.toNatClampNeg) >>> ((6 : Int32) &&& 31)) &&& (1 : Int32)) = 0) (cl (hR h x0 1) fun r_9 => cl (hR h r_9 2) fun r_10 => gd (inB x12 (hN h r_10)) <| nm (wJ h x0 8 ((hJ h x0 8) ||| (hJ h r_10 x12.toNatClampNeg))) fun h_12 => br ((hI h_12 x0 9) = 0) (sX5_survey_214 F k_30 (sX5_survey_135 F k_30 f) h_12 x0 x1 x2 x4 x6 x11 x12 x0) (cl (hR h_12 x0 1) fun r_14 => cl (sX10_isOpen h_12 r_14 x12 x2) fun o_15 => br (o_15.1 = 0) (sX5_survey_215 F k_30 (sX5_survey_135 F k_30 f) o_15.2 x0 x1 x2 x4 x6 x11 x12 (1 : Int32) x0) (sX5_survey_214 F k_30 (sX5_survey_135 F k_30 f) o_15.2 x0 x1 x2 x4 x6 x11 x12 x0))) (sX5_survey_218 F k_30 (sX5_survey_135 F k_30 f) h x0 x1 x2 x4 x6 x11 x12))
def sX5_survey_30 (F : Nat) : Nat → Hp → Nat → Int32 → Int64 → Int64 → Int32 → Option (Hp)
  | 0, _, _, _, _, _, _ => none
  | f + 1, h, x0, x1, x2, x4, x6 => br ((64 : Int32) ≤ x6) (sX5_survey_230 F h ) (br ((lg_cmp x4 (0 : Int64)) = 0) (sX5_survey_230 F h ) (nm (x4 &&& (-x4)) fun v_3 => nm (x4 ^^^ v_3) fun v_4 => gd (inB ((((v_3 * (285870213051386505 : Int64)).toUInt64 >>> ((58 : Int32).toInt64.toUInt64 &&& Int64.toUInt64 63)).toInt64).toInt32) 64) <| nm (sqT.getD ((((v_3 * (285870213051386505 : Int64)).toUInt64 >>> ((58 : Int32).toInt64.toUInt64 &&& Int64.toUInt64 63)).toInt64).toInt32).toNatClampNeg 0) fun v_6 => cl (hR h x0 4) fun r_7 => cl (hR h r_7 0) fun r_8 => gd (inB v_6 (hN h r_8)) <| nm (hI h r_8 v_6.toNatClampNeg) fun v_10 => cl (hR h x0 1) fun r_11 => cl (hR h r_11 4) fun r_12 => gd (inB ((v_10 * (64 : Int32)) + x1) (hN h r_12)) <| br ((lg_cmp ((hJ h r_12 ((v_10 * (64 : Int32)) + x1).toNatClampNeg) &&& v_3) (0 : Int64)) = 0) (sX5_survey_224 F (sX5_survey_30 F f) h x0 x1 x2 v_4 x6) (cl (sX10_cell h v_10 v_6 x1) fun o_15 => cl (hR o_15.2 x0 1) fun r_16 => cl (hR o_15.2 r_16 0) fun r_17 => gd (inB o_15.1 (hN o_15.2 r_17)) <| nm (hI o_15.2 r_17 o_15.1.toNatClampNeg) fun v_19 => sX5_survey_135 F (sX5_survey_30 F f) F o_15.2 x0 x1 x2 v_4 x6 o_15.1 v_19)))
def sX5_survey (F : Nat) (h : Hp) (x0 : Nat) (x1 : Int32) : Option (Hp) := cl (hR h x0 4) fun r_1 => cl (sX3_occupied h r_1) fun o_2 => cl (hR o_2.2 x0 4) fun r_3 => cl (hR o_2.2 r_3 1) fun r_4 => cl (hR o_2.2 x0 4) fun r_5 => gd (inB ((1 : Int32) - (hI o_2.2 r_5 5)) (hN o_2.2 r_4)) <| nm (hJ o_2.2 r_4 ((1 : Int32) - (hI o_2.2 r_5 5)).toNatClampNeg) fun v_7 => sX5_survey_30 F F o_2.2 x0 x1 o_2.1 v_7 (0 : Int32)
set_option maxRecDepth 20000 in
theorem moX5_survey_230 {o : Hp} {F : Nat} {h : Hp} (hE : sX5_survey_230 F h  = some o) : Le h o := by
  cases hE
  exact Le.rf _
set_option maxRecDepth 20000 in
theorem moX5_survey_224 {o : Hp} {k_30 : Hp → Nat → Int32 → Int64 → Int64 → Int32 → Option (Hp)} {F : Nat} (mk_30 : ∀ (h : Hp) (x0 : Nat) (x1 : Int32) (x2 : Int64) (x4 : Int64) (x6 : Int32), k_30 h x0 x1 x2 x4 x6 = some o → Le h o) {h : Hp} {x0 : Nat} {x1 : Int32} {x2 : Int64} {x4 : Int64} {x6 : Int32} (hE : sX5_survey_224 F k_30 h x0 x1 x2 x4 x6 = some o) : Le h o := by
  obtain ⟨v_1, ev_1, hE⟩ := nm_e2 hE
  exact mk_30 _ _ _ _ _ _ hE
set_option maxRecDepth 20000 in
theorem moX5_survey_218 {o : Hp} {k_30 : Hp → Nat → Int32 → Int64 → Int64 → Int32 → Option (Hp)} {k_135 : Hp → Nat → Int32 → Int64 → Int64 → Int32 → Int32 → Int32 → Option (Hp)} {F : Nat} (mk_30 : ∀ (h : Hp) (x0 : Nat) (x1 : Int32) (x2 : Int64) (x4 : Int64) (x6 : Int32), k_30 h x0 x1 x2 x4 x6 = some o → Le h o) (mk_135 : ∀ (h : Hp) (x0 : Nat) (x1 : Int32) (x2 : Int64) (x4 : Int64) (x6 : Int32) (x11 : Int32) (x12 : Int32), k_135 h x0 x1 x2 x4 x6 x11 x12 = some o → Le h o) {h : Hp} {x0 : Nat} {x1 : Int32} {x2 : Int64} {x4 : Int64} {x6 : Int32} {x11 : Int32} {x12 : Int32} (hE : sX5_survey_218 F k_30 k_135 h x0 x1 x2 x4 x6 x11 x12 = some o) : Le h o := by
  obtain ⟨v_1, ev_1, hE⟩ := nm_e2 hE
  exact mk_135 _ _ _ _ _ _ _ _ hE
set_option maxRecDepth 20000 in
theorem moX5_survey_215 {o : Hp} {k_30 : Hp → Nat → Int32 → Int64 → Int64 → Int32 → Option (Hp)} {k_135 : Hp → Nat → Int32 → Int64 → Int64 → Int32 → Int32 → Int32 → Option (Hp)} {F : Nat} (mk_30 : ∀ (h : Hp) (x0 : Nat) (x1 : Int32) (x2 : Int64) (x4 : Int64) (x6 : Int32), k_30 h x0 x1 x2 x4 x6 = some o → Le h o) (mk_135 : ∀ (h : Hp) (x0 : Nat) (x1 : Int32) (x2 : Int64) (x4 : Int64) (x6 : Int32) (x11 : Int32) (x12 : Int32), k_135 h x0 x1 x2 x4 x6 x11 x12 = some o → Le h o) {h : Hp} {x0 : Nat} {x1 : Int32} {x2 : Int64} {x4 : Int64} {x6 : Int32} {x11 : Int32} {x12 : Int32} {t0 : Int32} {t1 : Nat} (hE : sX5_survey_215 F k_30 k_135 h x0 x1 x2 x4 x6 x11 x12 t0 t1 = some o) : Le h o := by
  obtain ⟨g_1, hE⟩ := gd_e hE
  obtain ⟨h_2, eh_2, hE⟩ := nm_e2 hE
  refine (le_I eh_2).tr ?_
  exact moX5_survey_218 mk_30 mk_135 hE
set_option maxRecDepth 20000 in
theorem moX5_survey_214 {o : Hp} {k_30 : Hp → Nat → Int32 → Int64 → Int64 → Int32 → Option (Hp)} {k_135 : Hp → Nat → Int32 → Int64 → Int64 → Int32 → Int32 → Int32 → Option (Hp)} {F : Nat} (mk_30 : ∀ (h : Hp) (x0 : Nat) (x1 : Int32) (x2 : Int64) (x4 : Int64) (x6 : Int32), k_30 h x0 x1 x2 x4 x6 = some o → Le h o) (mk_135 : ∀ (h : Hp) (x0 : Nat) (x1 : Int32) (x2 : Int64) (x4 : Int64) (x6 : Int32) (x11 : Int32) (x12 : Int32), k_135 h x0 x1 x2 x4 x6 x11 x12 = some o → Le h o) {h : Hp} {x0 : Nat} {x1 : Int32} {x2 : Int64} {x4 : Int64} {x6 : Int32} {x11 : Int32} {x12 : Int32} {t0 : Nat} (hE : sX5_survey_214 F k_30 k_135 h x0 x1 x2 x4 x6 x11 x12 t0 = some o) : Le h o := by
  exact moX5_survey_215 mk_30 mk_135 hE
set_option maxRecDepth 20000 in
theorem moX5_survey_135 {o : Hp} {k_30 : Hp → Nat → Int32 → Int64 → Int64 → Int32 → Option (Hp)} {F : Nat} (mk_30 : ∀ (h : Hp) (x0 : Nat) (x1 : Int32) (x2 : Int64) (x4 : Int64) (x6 : Int32), k_30 h x0 x1 x2 x4 x6 = some o → Le h o) : ∀ (f : Nat) {h : Hp} {x0 : Nat} {x1 : Int32} {x2 : Int64} {x4 : Int64} {x6 : Int32} {x11 : Int32} {x12 : Int32}, sX5_survey_135 F k_30 f h x0 x1 x2 x4 x6 x11 x12 = some o → Le h o := by
  intro f
  induction f with
  | zero =>
    intro h x0 x1 x2 x4 x6 x11 x12 hE
    rw [sX5_survey_135] at hE
    cases hE
  | succ f ih =>
    intro h x0 x1 x2 x4 x6 x11 x12 hE
    rw [sX5_survey_135] at hE
    have mk_135 : ∀ (h : Hp) (x0 : Nat) (x1 : Int32) (x2 : Int64) (x4 : Int64) (x6 : Int32) (x11 : Int32) (x12 : Int32), sX5_survey_135 F k_30 f h x0 x1 x2 x4 x6 x11 x12 = some o → Le h o := fun h x0 x1 x2 x4 x6 x11 x12 hE => ih hE
    obtain ⟨r_1, er_1, hE⟩ := cl_e hE
    obtain ⟨r_2, er_2, hE⟩ := cl_e hE
    obtain ⟨g_3, hE⟩ := gd_e hE
    rcases br_e hE with ⟨_, hE⟩ | ⟨_, hE⟩
    · exact moX5_survey_224 mk_30 hE
    · obtain ⟨r_5, er_5, hE⟩ := cl_e hE
      obtain ⟨r_6, er_6, hE⟩ := cl_e hE
      obtain ⟨g_7, hE⟩ := gd_e hE
      rcases br_e hE with ⟨_, hE⟩ | ⟨_, hE⟩
      · obtain ⟨r_9, er_9, hE⟩ := cl_e hE
        obtain ⟨r_10, er_10, hE⟩ := cl_e hE
        obtain ⟨g_11, hE⟩ := gd_e hE
        obtain ⟨h_12, eh_12, hE⟩ := nm_e2 hE
        refine (le_J eh_12).tr ?_
        rcases br_e hE with ⟨_, hE⟩ | ⟨_, hE⟩
        · exact moX5_survey_214 mk_30 mk_135 hE
        · obtain ⟨r_14, er_14, hE⟩ := cl_e hE
          obtain ⟨o_15, eo_15, hE⟩ := cl_e hE
          refine (moX10_isOpen eo_15).tr ?_
          rcases br_e hE with ⟨_, hE⟩ | ⟨_, hE⟩
          · exact moX5_survey_215 mk_30 mk_135 hE
          · exact moX5_survey_214 mk_30 mk_135 hE
      · exact moX5_survey_218 mk_30 mk_135 hE
set_option maxRecDepth 20000 in
theorem moX5_survey_30 {o : Hp} {F : Nat} : ∀ (f : Nat) {h : Hp} {x0 : Nat} {x1 : Int32} {x2 : Int64} {x4 : Int64} {x6 : Int32}, sX5_survey_30 F f h x0 x1 x2 x4 x6 = some o → Le h o := by
  intro f
  induction f with
  | zero =>
    intro h x0 x1 x2 x4 x6 hE
    rw [sX5_survey_30] at hE
    cases hE
  | succ f ih =>
    intro h x0 x1 x2 x4 x6 hE
    rw [sX5_survey_30] at hE
    have mk_30 : ∀ (h : Hp) (x0 : Nat) (x1 : Int32) (x2 : Int64) (x4 : Int64) (x6 : Int32), sX5_survey_30 F f h x0 x1 x2 x4 x6 = some o → Le h o := fun h x0 x1 x2 x4 x6 hE => ih hE
    rcases br_e hE with ⟨_, hE⟩ | ⟨_, hE⟩
    · exact moX5_survey_230 hE
    · rcases br_e hE with ⟨_, hE⟩ | ⟨_, hE⟩
      · exact moX5_survey_230 hE
      · obtain ⟨v_3, ev_3, hE⟩ := nm_e2 hE
        obtain ⟨v_4, ev_4, hE⟩ := nm_e2 hE
        obtain ⟨g_5, hE⟩ := gd_e hE
        obtain ⟨v_6, ev_6, hE⟩ := nm_e2 hE
        obtain ⟨r_7, er_7, hE⟩ := cl_e hE
        obtain ⟨r_8, er_8, hE⟩ := cl_e hE
        obtain ⟨g_9, hE⟩ := gd_e hE
        obtain ⟨v_10, ev_10, hE⟩ := nm_e2 hE
        obtain ⟨r_11, er_11, hE⟩ := cl_e hE
        obtain ⟨r_12, er_12, hE⟩ := cl_e hE
        obtain ⟨g_13, hE⟩ := gd_e hE
        rcases br_e hE with ⟨_, hE⟩ | ⟨_, hE⟩
        · exact moX5_survey_224 mk_30 hE
        · obtain ⟨o_15, eo_15, hE⟩ := cl_e hE
          refine (moX10_cell eo_15).tr ?_
          obtain ⟨r_16, er_16, hE⟩ := cl_e hE
          obtain ⟨r_17, er_17, hE⟩ := cl_e hE
          obtain ⟨g_18, hE⟩ := gd_e hE
          obtain ⟨v_19, ev_19, hE⟩ := nm_e2 hE
          exact moX5_survey_135 mk_30 _ hE
set_option maxRecDepth 20000 in
theorem moX5_survey {o : Hp} {F : Nat} {h : Hp} {x0 : Nat} {x1 : Int32} (hE : sX5_survey F h x0 x1 = some o) : Le h o := by
  obtain ⟨r_1, er_1, hE⟩ := cl_e hE
  obtain ⟨o_2, eo_2, hE⟩ := cl_e hE
  refine (moX3_occupied eo_2).tr ?_
  obtain ⟨r_3, er_3, hE⟩ := cl_e hE
  obtain ⟨r_4, er_4, hE⟩ := cl_e hE
  obtain ⟨r_5, er_5, hE⟩ := cl_e hE
  obtain ⟨g_6, hE⟩ := gd_e hE
  obtain ⟨v_7, ev_7, hE⟩ := nm_e2 hE
  exact moX5_survey_30 _ hE
set_option maxRecDepth 20000 in
theorem bX5_survey_230 {p : Program} {l : Launch} {e : Env} {s : State} {m : MethodId} {args : Array Value} {below : List Frame} {meth : Method} {c : Code} {X : Ec} {h0 : Hp} {o : Hp} {F : Nat} (C : Cx X p s m args meth c RX5 cX5_survey 13 none "survey") {h : Hp} {H : Heap} {locs : List Loc} (hkm : Km h0 h) (hW : Wx X h H) (hZ : va_S (aA (eB X)) s.heap H locs) (ls : Array Slot) (hl : lv_has ls 13 []) (hE : sX5_survey_230 F h  = some o) : W p l e (rm 1 25) s m args below meth c H locs 0 0 (MQ below (QV X h0 o) args s 0 0 (aA (eB X))) (F0 m 230 ls []) := by
  exact x_vret C rfl hW hZ hkm hE dX5_survey_230
set_option maxRecDepth 20000 in
theorem bX5_survey_224 {p : Program} {l : Launch} {e : Env} {s : State} {m : MethodId} {args : Array Value} {below : List Frame} {meth : Method} {c : Code} {X : Ec} {h0 : Hp} {o : Hp} {k_30 : Hp → Nat → Int32 → Int64 → Int64 → Int32 → Option (Hp)} {F : Nat} (C : Cx X p s m args meth c RX5 cX5_survey 13 none "survey") (hk_30 : ∀ (h : Hp) (x0 : Nat) (x1 : Int32) (x2 : Int64) (x4 : Int64) (x6 : Int32) (H : Heap) (locs : List Loc), hK h x0 = 5 → Km h0 h → Wx X h H → va_S (aA (eB X)) s.heap H locs → ∀ (ls : Array Slot), lv_has ls 13 [(0, .ref x0), (1, .int x1), (2, .long x2), (4, .long x4), (6, .int x6)] → k_30 h x0 x1 x2 x4 x6 = some o → W p l e (rm 1 25) s m args below meth c H locs 0 0 (MQ below (QV X h0 o) args s 0 0 (aA (eB X))) (F0 m 30 ls [])) {h : Hp} {x0 : Nat} {x1 : Int32} {x2 : Int64} {x4 : Int64} {x6 : Int32} {H : Heap} {locs : List Loc} (k_x0 : hK h x0 = 5) (hkm : Km h0 h) (hW : Wx X h H) (hZ : va_S (aA (eB X)) s.heap H locs) (ls : Array Slot) (hl : lv_has ls 13 [(0, .ref x0), (1, .int x1), (2, .long x2), (4, .long x4), (6, .int x6)]) (hE : sX5_survey_224 F k_30 h x0 x1 x2 x4 x6 = some o) : W p l e (rm 1 25) s m args below meth c H locs 0 0 (MQ below (QV X h0 o) args s 0 0 (aA (eB X))) (F0 m 224 ls []) := by
  obtain ⟨v_1, ev_1, hE⟩ := nm_e2 hE
  refine lv_iinc (v := v_1) (lv' := [(6, .int v_1), (0, .ref x0), (1, .int x1), (2, .long x2), (4, .long x4)]) C.1 C.2.1 dX5_survey_224 hl (k := 4) rfl (by rw [ev_1]; rfl) (by decide) rfl (fun ls hl => ?_)
  refine lv_goto (tgt := 30) C.1 C.2.1 dX5_survey_227 (by decide) ?_
  exact hk_30 _ _ _ _ _ _ _ _ k_x0 hkm hW hZ _ (lv_sub hl [1, 2, 3, 4, 0] rfl) hE
set_option maxRecDepth 20000 in
theorem bX5_survey_218 {p : Program} {l : Launch} {e : Env} {s : State} {m : MethodId} {args : Array Value} {below : List Frame} {meth : Method} {c : Code} {X : Ec} {h0 : Hp} {o : Hp} {k_30 : Hp → Nat → Int32 → Int64 → Int64 → Int32 → Option (Hp)} {k_135 : Hp → Nat → Int32 → Int64 → Int64 → Int32 → Int32 → Int32 → Option (Hp)} {F : Nat} (C : Cx X p s m args meth c RX5 cX5_survey 13 none "survey") (hk_30 : ∀ (h : Hp) (x0 : Nat) (x1 : Int32) (x2 : Int64) (x4 : Int64) (x6 : Int32) (H : Heap) (locs : List Loc), hK h x0 = 5 → Km h0 h → Wx X h H → va_S (aA (eB X)) s.heap H locs → ∀ (ls : Array Slot), lv_has ls 13 [(0, .ref x0), (1, .int x1), (2, .long x2), (4, .long x4), (6, .int x6)] → k_30 h x0 x1 x2 x4 x6 = some o → W p l e (rm 1 25) s m args below meth c H locs 0 0 (MQ below (QV X h0 o) args s 0 0 (aA (eB X))) (F0 m 30 ls [])) (hk_135 : ∀ (h : Hp) (x0 : Nat) (x1 : Int32) (x2 : Int64) (x4 : Int64) (x6 : Int32) (x11 : Int32) (x12 : Int32) (H : Heap) (locs : List Loc), hK h x0 = 5 → Km h0 h → Wx X h H → va_S (aA (eB X)) s.heap H locs → ∀ (ls : Array Slot), lv_has ls 13 [(0, .ref x0), (1, .int x1), (2, .long x2), (4, .long x4), (6, .int x6), (11, .int x11), (12, .int x12)] → k_135 h x0 x1 x2 x4 x6 x11 x12 = some o → W p l e (rm 1 25) s m args below meth c H locs 0 0 (MQ below (QV X h0 o) args s 0 0 (aA (eB X))) (F0 m 135 ls [])) {h : Hp} {x0 : Nat} {x1 : Int32} {x2 : Int64} {x4 : Int64} {x6 : Int32} {x11 : Int32} {x12 : Int32} {H : Heap} {locs : List Loc} (k_x0 : hK h x0 = 5) (hkm : Km h0 h) (hW : Wx X h H) (hZ : va_S (aA (eB X)) s.heap H locs) (ls : Array Slot) (hl : lv_has ls 13 [(0, .ref x0), (1, .int x1), (2, .long x2), (4, .long x4), (6, .int x6), (11, .int x11), (12, .int x12)]) (hE : sX5_survey_218 F k_30 k_135 h x0 x1 x2 x4 x6 x11 x12 = some o) : W p l e (rm 1 25) s m args below meth c H locs 0 0 (MQ below (QV X h0 o) args s 0 0 (aA (eB X))) (F0 m 218 ls []) := by
  obtain ⟨v_1, ev_1, hE⟩ := nm_e2 hE
  refine lv_iinc (v := v_1) (lv' := [(12, .int v_1), (0, .ref x0), (1, .int x1), (2, .long x2), (4, .long x4), (6, .int x6), (11, .int x11)]) C.1 C.2.1 dX5_survey_218 hl (k := 6) rfl (by rw [ev_1]; rfl) (by decide) rfl (fun ls hl => ?_)
  refine lv_goto (tgt := 135) C.1 C.2.1 dX5_survey_221 (by decide) ?_
  exact hk_135 _ _ _ _ _ _ _ _ _ _ k_x0 hkm hW hZ _ (lv_sub hl [1, 2, 3, 4, 5, 6, 0] rfl) hE
set_option maxRecDepth 20000 in
theorem bX5_survey_215 {p : Program} {l : Launch} {e : Env} {s : State} {m : MethodId} {args : Array Value} {below : List Frame} {meth : Method} {c : Code} {X : Ec} {h0 : Hp} {o : Hp} {k_30 : Hp → Nat → Int32 → Int64 → Int64 → Int32 → Option (Hp)} {k_135 : Hp → Nat → Int32 → Int64 → Int64 → Int32 → Int32 → Int32 → Option (Hp)} {F : Nat} (C : Cx X p s m args meth c RX5 cX5_survey 13 none "survey") (hk_30 : ∀ (h : Hp) (x0 : Nat) (x1 : Int32) (x2 : Int64) (x4 : Int64) (x6 : Int32) (H : Heap) (locs : List Loc), hK h x0 = 5 → Km h0 h → Wx X h H → va_S (aA (eB X)) s.heap H locs → ∀ (ls : Array Slot), lv_has ls 13 [(0, .ref x0), (1, .int x1), (2, .long x2), (4, .long x4), (6, .int x6)] → k_30 h x0 x1 x2 x4 x6 = some o → W p l e (rm 1 25) s m args below meth c H locs 0 0 (MQ below (QV X h0 o) args s 0 0 (aA (eB X))) (F0 m 30 ls [])) (hk_135 : ∀ (h : Hp) (x0 : Nat) (x1 : Int32) (x2 : Int64) (x4 : Int64) (x6 : Int32) (x11 : Int32) (x12 : Int32) (H : Heap) (locs : List Loc), hK h x0 = 5 → Km h0 h → Wx X h H → va_S (aA (eB X)) s.heap H locs → ∀ (ls : Array Slot), lv_has ls 13 [(0, .ref x0), (1, .int x1), (2, .long x2), (4, .long x4), (6, .int x6), (11, .int x11), (12, .int x12)] → k_135 h x0 x1 x2 x4 x6 x11 x12 = some o → W p l e (rm 1 25) s m args below meth c H locs 0 0 (MQ below (QV X h0 o) args s 0 0 (aA (eB X))) (F0 m 135 ls [])) {h : Hp} {x0 : Nat} {x1 : Int32} {x2 : Int64} {x4 : Int64} {x6 : Int32} {x11 : Int32} {x12 : Int32} {t0 : Int32} {t1 : Nat} {H : Heap} {locs : List Loc} (k_x0 : hK h x0 = 5) (k_t1 : hK h t1 = 5) (hkm : Km h0 h) (hW : Wx X h H) (hZ : va_S (aA (eB X)) s.heap H locs) (ls : Array Slot) (hl : lv_has ls 13 [(0, .ref x0), (1, .int x1), (2, .long x2), (4, .long x4), (6, .int x6), (11, .int x11), (12, .int x12)]) (hE : sX5_survey_215 F k_30 k_135 h x0 x1 x2 x4 x6 x11 x12 t0 t1 = some o) : W p l e (rm 1 25) s m args below meth c H locs 0 0 (MQ below (QV X h0 o) args s 0 0 (aA (eB X))) (F0 m 215 ls [.int t0, .ref t1]) := by
  obtain ⟨g_1, hE⟩ := gd_e hE
  obtain ⟨h_2, eh_2, hE⟩ := nm_e2 hE
  refine pf_X5_132 C hW hZ k_t1 (narB g_1) eh_2 dX5_survey_215 (fun _ _ hW km hZ => ?_)
  replace hkm := hkm.tr km
  replace k_x0 := km.at k_x0 (by decide)
  exact bX5_survey_218 C hk_30 hk_135 k_x0 hkm hW hZ _ (lv_sub hl [0, 1, 2, 3, 4, 5, 6] rfl) hE
set_option maxRecDepth 20000 in
theorem bX5_survey_214 {p : Program} {l : Launch} {e : Env} {s : State} {m : MethodId} {args : Array Value} {below : List Frame} {meth : Method} {c : Code} {X : Ec} {h0 : Hp} {o : Hp} {k_30 : Hp → Nat → Int32 → Int64 → Int64 → Int32 → Option (Hp)} {k_135 : Hp → Nat → Int32 → Int64 → Int64 → Int32 → Int32 → Int32 → Option (Hp)} {F : Nat} (C : Cx X p s m args meth c RX5 cX5_survey 13 none "survey") (hk_30 : ∀ (h : Hp) (x0 : Nat) (x1 : Int32) (x2 : Int64) (x4 : Int64) (x6 : Int32) (H : Heap) (locs : List Loc), hK h x0 = 5 → Km h0 h → Wx X h H → va_S (aA (eB X)) s.heap H locs → ∀ (ls : Array Slot), lv_has ls 13 [(0, .ref x0), (1, .int x1), (2, .long x2), (4, .long x4), (6, .int x6)] → k_30 h x0 x1 x2 x4 x6 = some o → W p l e (rm 1 25) s m args below meth c H locs 0 0 (MQ below (QV X h0 o) args s 0 0 (aA (eB X))) (F0 m 30 ls [])) (hk_135 : ∀ (h : Hp) (x0 : Nat) (x1 : Int32) (x2 : Int64) (x4 : Int64) (x6 : Int32) (x11 : Int32) (x12 : Int32) (H : Heap) (locs : List Loc), hK h x0 = 5 → Km h0 h → Wx X h H → va_S (aA (eB X)) s.heap H locs → ∀ (ls : Array Slot), lv_has ls 13 [(0, .ref x0), (1, .int x1), (2, .long x2), (4, .long x4), (6, .int x6), (11, .int x11), (12, .int x12)] → k_135 h x0 x1 x2 x4 x6 x11 x12 = some o → W p l e (rm 1 25) s m args below meth c H locs 0 0 (MQ below (QV X h0 o) args s 0 0 (aA (eB X))) (F0 m 135 ls [])) {h : Hp} {x0 : Nat} {x1 : Int32} {x2 : Int64} {x4 : Int64} {x6 : Int32} {x11 : Int32} {x12 : Int32} {t0 : Nat} {H : Heap} {locs : List Loc} (k_x0 : hK h x0 = 5) (k_t0 : hK h t0 = 5) (hkm : Km h0 h) (hW : Wx X h H) (hZ : va_S (aA (eB X)) s.heap H locs) (ls : Array Slot) (hl : lv_has ls 13 [(0, .ref x0), (1, .int x1), (2, .long x2), (4, .long x4), (6, .int x6), (11, .int x11), (12, .int x12)]) (hE : sX5_survey_214 F k_30 k_135 h x0 x1 x2 x4 x6 x11 x12 t0 = some o) : W p l e (rm 1 25) s m args below meth c H locs 0 0 (MQ below (QV X h0 o) args s 0 0 (aA (eB X))) (F0 m 214 ls [.ref t0]) := by
  refine lv_iconst (v := (0 : Int32)) C.1 C.2.1 dX5_survey_214 (by decide) ?_
  exact bX5_survey_215 C hk_30 hk_135 k_x0 k_t0 hkm hW hZ _ (lv_sub hl [0, 1, 2, 3, 4, 5, 6] rfl) hE
set_option maxRecDepth 20000 in
theorem bX5_survey_135 {p : Program} {l : Launch} {e : Env} {s : State} {m : MethodId} {args : Array Value} {below : List Frame} {meth : Method} {c : Code} {X : Ec} {h0 : Hp} {o : Hp} {k_30 : Hp → Nat → Int32 → Int64 → Int64 → Int32 → Option (Hp)} {F : Nat} (C : Cx X p s m args meth c RX5 cX5_survey 13 none "survey") (hk_30 : ∀ (h : Hp) (x0 : Nat) (x1 : Int32) (x2 : Int64) (x4 : Int64) (x6 : Int32) (H : Heap) (locs : List Loc), hK h x0 = 5 → Km h0 h → Wx X h H → va_S (aA (eB X)) s.heap H locs → ∀ (ls : Array Slot), lv_has ls 13 [(0, .ref x0), (1, .int x1), (2, .long x2), (4, .long x4), (6, .int x6)] → k_30 h x0 x1 x2 x4 x6 = some o → W p l e (rm 1 25) s m args below meth c H locs 0 0 (MQ below (QV X h0 o) args s 0 0 (aA (eB X))) (F0 m 30 ls [])) : ∀ (f : Nat) {h : Hp} {x0 : Nat} {x1 : Int32} {x2 : Int64} {x4 : Int64} {x6 : Int32} {x11 : Int32} {x12 : Int32} {H : Heap} {locs : List Loc} (k_x0 : hK h x0 = 5), Km h0 h → Wx X h H → va_S (aA (eB X)) s.heap H locs → ∀ (ls : Array Slot), lv_has ls 13 [(0, .ref x0), (1, .int x1), (2, .long x2), (4, .long x4), (6, .int x6), (11, .int x11), (12, .int x12)] → sX5_survey_135 F k_30 f h x0 x1 x2 x4 x6 x11 x12 = some o → W p l e (rm 1 25) s m args below meth c H locs 0 0 (MQ below (QV X h0 o) args s 0 0 (aA (eB X))) (F0 m 135 ls []) := by
  intro f
  induction f with
  | zero =>
    intro h x0 x1 x2 x4 x6 x11 x12 H locs k_x0 hkm hW hZ ls hl hE
    rw [sX5_survey_135] at hE
    cases hE
  | succ f ih =>
    intro h x0 x1 x2 x4 x6 x11 x12 H locs k_x0 hkm hW hZ ls hl hE
    rw [sX5_survey_135] at hE
    have hk_135 : ∀ (h : Hp) (x0 : Nat) (x1 : Int32) (x2 : Int64) (x4 : Int64) (x6 : Int32) (x11 : Int32) (x12 : Int32) (H : Heap) (locs : List Loc), hK h x0 = 5 → Km h0 h → Wx X h H → va_S (aA (eB X)) s.heap H locs → ∀ (ls : Array Slot), lv_has ls 13 [(0, .ref x0), (1, .int x1), (2, .long x2), (4, .long x4), (6, .int x6), (11, .int x11), (12, .int x12)] → sX5_survey_135 F k_30 f h x0 x1 x2 x4 x6 x11 x12 = some o → W p l e (rm 1 25) s m args below meth c H locs 0 0 (MQ below (QV X h0 o) args s 0 0 (aA (eB X))) (F0 m 135 ls []) := fun h x0 x1 x2 x4 x6 x11 x12 H locs k_x0 a b c ls hl hE => ih k_x0 a b c ls hl hE
    refine lv_iload C.1 C.2.1 dX5_survey_135 (lv_at hl 6 rfl) ?_
    refine lv_aload_n C.1 C.2.1 dX5_survey_137 rfl (lv_at hl 0 rfl) ?_
    obtain ⟨r_1, er_1, hE⟩ := cl_e hE
    refine gf_X5_26 C hW k_x0 er_1 dX5_survey_138 (fun k_r_1 => ?_)
    obtain ⟨r_2, er_2, hE⟩ := cl_e hE
    refine gf_X5_51 C hW k_r_1 er_2 dX5_survey_141 (fun k_r_2 => ?_)
    refine lv_iload C.1 C.2.1 dX5_survey_144 (lv_at hl 5 rfl) ?_
    refine lv_iconst (v := (1 : Int32)) C.1 C.2.1 dX5_survey_146 (by decide) ?_
    refine lv_iadd C.1 C.2.1 dX5_survey_147 ?_
    obtain ⟨g_3, hE⟩ := gd_e hE
    refine y_iald C hW k_r_2 g_3 dX5_survey_148 ?_
    refine lv_icmp_ge (tgt := 224) C.1 C.2.1 dX5_survey_149 (by decide) (fun c_4 => ?_) (fun c_4 => ?_)
    · have hE := br_p hE c_4
      exact bX5_survey_224 C hk_30 k_x0 hkm hW hZ _ (lv_sub hl [0, 1, 2, 3, 4] rfl) hE
    · have hE := br_n hE c_4
      refine lv_aload_n C.1 C.2.1 dX5_survey_152 rfl (lv_at hl 0 rfl) ?_
      obtain ⟨r_5, er_5, hE⟩ := cl_e hE
      refine gf_X5_26 C hW k_x0 er_5 dX5_survey_153 (fun k_r_5 => ?_)
      obtain ⟨r_6, er_6, hE⟩ := cl_e hE
      refine gf_X5_54 C hW k_r_5 er_6 dX5_survey_156 (fun k_r_6 => ?_)
      refine lv_iload C.1 C.2.1 dX5_survey_159 (lv_at hl 6 rfl) ?_
      obtain ⟨g_7, hE⟩ := gd_e hE
      refine y_iald C hW k_r_6 g_7 dX5_survey_161 ?_
      refine lv_bipush (v := (6 : Int32)) C.1 C.2.1 dX5_survey_162 (by decide) ?_
      refine lv_ishr C.1 C.2.1 dX5_survey_164 ?_
      refine lv_iconst (v := (1 : Int32)) C.1 C.2.1 dX5_survey_165 (by decide) ?_
      refine lv_iand C.1 C.2.1 dX5_survey_166 ?_
      refine lv_if_ne (tgt := 218) C.1 C.2.1 dX5_survey_167 (by decide) (fun c_8 => ?_) (fun c_8 => ?_)
      · have hE := br_n hE c_8
        exact bX5_survey_218 C hk_30 hk_135 k_x0 hkm hW hZ _ (lv_sub hl [0, 1, 2, 3, 4, 5, 6] rfl) hE
      · have hE := br_p hE c_8
        refine lv_aload_n C.1 C.2.1 dX5_survey_170 rfl (lv_at hl 0 rfl) ?_
        refine lv_dup C.1 C.2.1 dX5_survey_171 rfl ?_
        refine gf_X5_126 C hW k_x0 dX5_survey_172 ?_
        refine lv_aload_n C.1 C.2.1 dX5_survey_175 rfl (lv_at hl 0 rfl) ?_
        obtain ⟨r_9, er_9, hE⟩ := cl_e hE
        refine gf_X5_26 C hW k_x0 er_9 dX5_survey_176 (fun k_r_9 => ?_)
        obtain ⟨r_10, er_10, hE⟩ := cl_e hE
        refine gf_X5_57 C hW k_r_9 er_10 dX5_survey_179 (fun k_r_10 => ?_)
        refine lv_iload C.1 C.2.1 dX5_survey_182 (lv_at hl 6 rfl) ?_
        obtain ⟨g_11, hE⟩ := gd_e hE
        refine y_lald C hW k_r_10 g_11 dX5_survey_184 ?_
        refine lv_lor C.1 C.2.1 dX5_survey_185 ?_
        obtain ⟨h_12, eh_12, hE⟩ := nm_e2 hE
        refine pf_X5_126 C hW hZ k_x0 eh_12 dX5_survey_186 (fun _ _ hW km hZ => ?_)
        replace hkm := hkm.tr km
        replace k_x0 := km.at k_x0 (by decide)
        refine lv_aload_n C.1 C.2.1 dX5_survey_189 rfl (lv_at hl 0 rfl) ?_
        refine lv_aload_n C.1 C.2.1 dX5_survey_190 rfl (lv_at hl 0 rfl) ?_
        refine gf_X5_132 C hW k_x0 dX5_survey_191 ?_
        refine lv_if_eq (tgt := 214) C.1 C.2.1 dX5_survey_194 (by decide) (fun c_13 => ?_) (fun c_13 => ?_)
        · have hE := br_p hE c_13
          exact bX5_survey_214 C hk_30 hk_135 k_x0 k_x0 hkm hW hZ _ (lv_sub hl [0, 1, 2, 3, 4, 5, 6] rfl) hE
        · have hE := br_n hE c_13
          refine lv_aload_n C.1 C.2.1 dX5_survey_197 rfl (lv_at hl 0 rfl) ?_
          obtain ⟨r_14, er_14, hE⟩ := cl_e hE
          refine gf_X5_26 C hW k_x0 er_14 dX5_survey_198 (fun k_r_14 => ?_)
          refine lv_iload C.1 C.2.1 dX5_survey_201 (lv_at hl 6 rfl) ?_
          refine lv_lload_n C.1 C.2.1 dX5_survey_203 rfl (lv_at hl 2 rfl) ?_
          obtain ⟨o_15, eo_15, hE⟩ := cl_e hE
          refine x_kI (o := o_15) (z_runV (As := [.int x12, .long x2]) (rest := [.ref x0]) C (ct_X10_isOpen l X k_r_14 eo_15) cw_X5_146 hW hZ k_r_14 (by decide) rfl rfl rfl hl.1 (Nat.le_of_ble_eq_true rfl) rfl dX5_survey_204 ⟨Nat.le_of_ble_eq_true rfl, Nat.le_of_ble_eq_true rfl⟩ ⟨Nat.le_refl _, Nat.le_refl _⟩) hZ (fun _ _ hW km hZ => ?_)
          replace hkm := hkm.tr km
          replace k_x0 := km.at k_x0 (by decide)
          refine lv_if_ne (tgt := 214) C.1 C.2.1 dX5_survey_207 (by decide) (fun c_16 => ?_) (fun c_16 => ?_)
          · have hE := br_n hE c_16
            exact bX5_survey_214 C hk_30 hk_135 k_x0 k_x0 hkm hW hZ _ (lv_sub hl [0, 1, 2, 3, 4, 5, 6] rfl) hE
          · have hE := br_p hE c_16
            refine lv_iconst (v := (1 : Int32)) C.1 C.2.1 dX5_survey_210 (by decide) ?_
            refine lv_goto (tgt := 215) C.1 C.2.1 dX5_survey_211 (by decide) ?_
            exact bX5_survey_215 C hk_30 hk_135 k_x0 k_x0 hkm hW hZ _ (lv_sub hl [0, 1, 2, 3, 4, 5, 6] rfl) hE
set_option maxRecDepth 20000 in
theorem bX5_survey_30 {p : Program} {l : Launch} {e : Env} {s : State} {m : MethodId} {args : Array Value} {below : List Frame} {meth : Method} {c : Code} {X : Ec} {h0 : Hp} {o : Hp} {F : Nat} (C : Cx X p s m args meth c RX5 cX5_survey 13 none "survey") : ∀ (f : Nat) {h : Hp} {x0 : Nat} {x1 : Int32} {x2 : Int64} {x4 : Int64} {x6 : Int32} {H : Heap} {locs : List Loc} (k_x0 : hK h x0 = 5), Km h0 h → Wx X h H → va_S (aA (eB X)) s.heap H locs → ∀ (ls : Array Slot), lv_has ls 13 [(0, .ref x0), (1, .int x1), (2, .long x2), (4, .long x4), (6, .int x6)] → sX5_survey_30 F f h x0 x1 x2 x4 x6 = some o → W p l e (rm 1 25) s m args below meth c H locs 0 0 (MQ below (QV X h0 o) args s 0 0 (aA (eB X))) (F0 m 30 ls []) := by
  intro f
  induction f with
  | zero =>
    intro h x0 x1 x2 x4 x6 H locs k_x0 hkm hW hZ ls hl hE
    rw [sX5_survey_30] at hE
    cases hE
  | succ f ih =>
    intro h x0 x1 x2 x4 x6 H locs k_x0 hkm hW hZ ls hl hE
    rw [sX5_survey_30] at hE
    have hk_30 : ∀ (h : Hp) (x0 : Nat) (x1 : Int32) (x2 : Int64) (x4 : Int64) (x6 : Int32) (H : Heap) (locs : List Loc), hK h x0 = 5 → Km h0 h → Wx X h H → va_S (aA (eB X)) s.heap H locs → ∀ (ls : Array Slot), lv_has ls 13 [(0, .ref x0), (1, .int x1), (2, .long x2), (4, .long x4), (6, .int x6)] → sX5_survey_30 F f h x0 x1 x2 x4 x6 = some o → W p l e (rm 1 25) s m args below meth c H locs 0 0 (MQ below (QV X h0 o) args s 0 0 (aA (eB X))) (F0 m 30 ls []) := fun h x0 x1 x2 x4 x6 H locs k_x0 a b c ls hl hE => ih k_x0 a b c ls hl hE
    refine lv_iload C.1 C.2.1 dX5_survey_30 (lv_at hl 4 rfl) ?_
    refine lv_bipush (v := (64 : Int32)) C.1 C.2.1 dX5_survey_32 (by decide) ?_
    refine lv_icmp_ge (tgt := 230) C.1 C.2.1 dX5_survey_34 (by decide) (fun c_1 => ?_) (fun c_1 => ?_)
    · have hE := br_p hE c_1
      exact bX5_survey_230 C hkm hW hZ _ (lv_sub hl [] rfl) hE
    · have hE := br_n hE c_1
      refine lv_lload C.1 C.2.1 dX5_survey_37 (lv_at hl 3 rfl) ?_
      refine lv_lconst (v := (0 : Int64)) C.1 C.2.1 dX5_survey_39 (by decide) ?_
      refine W.lcmp C.1 C.2.1 dX5_survey_40 ?_
      refine lv_if_eq (tgt := 230) C.1 C.2.1 dX5_survey_41 (by decide) (fun c_2 => ?_) (fun c_2 => ?_)
      · have hE := br_p hE c_2
        exact bX5_survey_230 C hkm hW hZ _ (lv_sub hl [] rfl) hE
      · have hE := br_n hE c_2
        refine lv_lload C.1 C.2.1 dX5_survey_44 (lv_at hl 3 rfl) ?_
        refine lv_lload C.1 C.2.1 dX5_survey_46 (lv_at hl 3 rfl) ?_
        refine lv_lneg C.1 C.2.1 dX5_survey_48 ?_
        refine lv_land C.1 C.2.1 dX5_survey_49 ?_
        obtain ⟨v_3, ev_3, hE⟩ := nm_e2 hE
        refine x_nmJ ev_3 ?_
        refine lv_lstore (lv' := [(7, .long v_3), (0, .ref x0), (1, .int x1), (2, .long x2), (4, .long x4), (6, .int x6)]) C.1 C.2.1 dX5_survey_50 hl (by decide) rfl (fun ls hl => ?_)
        refine lv_lload C.1 C.2.1 dX5_survey_52 (lv_at hl 4 rfl) ?_
        refine lv_lload C.1 C.2.1 dX5_survey_54 (lv_at hl 0 rfl) ?_
        refine lv_lxor C.1 C.2.1 dX5_survey_56 ?_
        obtain ⟨v_4, ev_4, hE⟩ := nm_e2 hE
        refine x_nmJ ev_4 ?_
        refine lv_lstore (lv' := [(4, .long v_4), (7, .long v_3), (0, .ref x0), (1, .int x1), (2, .long x2), (6, .int x6)]) C.1 C.2.1 dX5_survey_57 hl (by decide) rfl (fun ls hl => ?_)
        refine y_sqN C hZ n_1097 dX5_survey_59 ?_
        refine lv_lload C.1 C.2.1 dX5_survey_62 (lv_at hl 1 rfl) ?_
        refine lv_ldc2 (v := (285870213051386505 : Int64)) C.1 C.2.1 C.2.2.2.1 (C.2.2.2.2.1 _ m_1098) dX5_survey_64 ?_
        refine lv_lmul C.1 C.2.1 dX5_survey_67 ?_
        refine lv_bipush (v := (58 : Int32)) C.1 C.2.1 dX5_survey_68 (by decide) ?_
        refine lv_lushr C.1 C.2.1 dX5_survey_70 rfl ?_
        refine lv_l2i C.1 C.2.1 dX5_survey_71 rfl ?_
        obtain ⟨g_5, hE⟩ := gd_e hE
        refine y_sqld C hZ g_5 dX5_survey_72 ?_
        obtain ⟨v_6, ev_6, hE⟩ := nm_e2 hE
        refine x_nmI ev_6 ?_
        refine lv_istore (lv' := [(9, .int v_6), (4, .long v_4), (7, .long v_3), (0, .ref x0), (1, .int x1), (2, .long x2), (6, .int x6)]) C.1 C.2.1 dX5_survey_73 hl (by decide) rfl (fun ls hl => ?_)
        refine lv_aload_n C.1 C.2.1 dX5_survey_75 rfl (lv_at hl 3 rfl) ?_
        obtain ⟨r_7, er_7, hE⟩ := cl_e hE
        refine gf_X5_71 C hW k_x0 er_7 dX5_survey_76 (fun k_r_7 => ?_)
        obtain ⟨r_8, er_8, hE⟩ := cl_e hE
        refine gf_X5_42 C hW k_r_7 er_8 dX5_survey_79 (fun k_r_8 => ?_)
        refine lv_iload C.1 C.2.1 dX5_survey_82 (lv_at hl 0 rfl) ?_
        obtain ⟨g_9, hE⟩ := gd_e hE
        refine y_bald C hW k_r_8 g_9 dX5_survey_84 ?_
        obtain ⟨v_10, ev_10, hE⟩ := nm_e2 hE
        refine x_nmI ev_10 ?_
        refine lv_istore (lv' := [(10, .int v_10), (9, .int v_6), (4, .long v_4), (7, .long v_3), (0, .ref x0), (1, .int x1), (2, .long x2), (6, .int x6)]) C.1 C.2.1 dX5_survey_85 hl (by decide) rfl (fun ls hl => ?_)
        refine lv_aload_n C.1 C.2.1 dX5_survey_87 rfl (lv_at hl 4 rfl) ?_
        obtain ⟨r_11, er_11, hE⟩ := cl_e hE
        refine gf_X5_26 C hW k_x0 er_11 dX5_survey_88 (fun k_r_11 => ?_)
        obtain ⟨r_12, er_12, hE⟩ := cl_e hE
        refine gf_X5_46 C hW k_r_11 er_12 dX5_survey_91 (fun k_r_12 => ?_)
        refine lv_iload C.1 C.2.1 dX5_survey_94 (lv_at hl 0 rfl) ?_
        refine lv_bipush (v := (64 : Int32)) C.1 C.2.1 dX5_survey_96 (by decide) ?_
        refine lv_imul C.1 C.2.1 dX5_survey_98 ?_
        refine lv_iload_n C.1 C.2.1 dX5_survey_99 rfl (lv_at hl 5 rfl) ?_
        refine lv_iadd C.1 C.2.1 dX5_survey_100 ?_
        obtain ⟨g_13, hE⟩ := gd_e hE
        refine y_lald C hW k_r_12 g_13 dX5_survey_101 ?_
        refine lv_lload C.1 C.2.1 dX5_survey_102 (lv_at hl 3 rfl) ?_
        refine lv_land C.1 C.2.1 dX5_survey_104 ?_
        refine lv_lconst (v := (0 : Int64)) C.1 C.2.1 dX5_survey_105 (by decide) ?_
        refine W.lcmp C.1 C.2.1 dX5_survey_106 ?_
        refine lv_if_ne (tgt := 113) C.1 C.2.1 dX5_survey_107 (by decide) (fun c_14 => ?_) (fun c_14 => ?_)
        · have hE := br_n hE c_14
          refine lv_iload C.1 C.2.1 dX5_survey_113 (lv_at hl 0 rfl) ?_
          refine lv_iload C.1 C.2.1 dX5_survey_115 (lv_at hl 1 rfl) ?_
          refine lv_iload_n C.1 C.2.1 dX5_survey_117 rfl (lv_at hl 5 rfl) ?_
          obtain ⟨o_15, eo_15, hE⟩ := cl_e hE
          refine x_kI (o := o_15) (z_runS (As := [.int v_10, .int v_6, .int x1]) (rest := []) C (ct_X10_cell l X eo_15) cw_X5_142 hW hZ rfl hl.1 (Nat.le_of_ble_eq_true rfl) rfl dX5_survey_118 ⟨Nat.le_of_ble_eq_true rfl, Nat.le_of_ble_eq_true rfl⟩ ⟨Nat.le_refl _, Nat.le_refl _⟩) hZ (fun _ _ hW km hZ => ?_)
          replace hkm := hkm.tr km
          replace k_x0 := km.at k_x0 (by decide)
          refine lv_istore (lv' := [(11, .int o_15.1), (10, .int v_10), (9, .int v_6), (4, .long v_4), (7, .long v_3), (0, .ref x0), (1, .int x1), (2, .long x2), (6, .int x6)]) C.1 C.2.1 dX5_survey_121 hl (by decide) rfl (fun ls hl => ?_)
          refine lv_aload_n C.1 C.2.1 dX5_survey_123 rfl (lv_at hl 5 rfl) ?_
          obtain ⟨r_16, er_16, hE⟩ := cl_e hE
          refine gf_X5_26 C hW k_x0 er_16 dX5_survey_124 (fun k_r_16 => ?_)
          obtain ⟨r_17, er_17, hE⟩ := cl_e hE
          refine gf_X5_51 C hW k_r_16 er_17 dX5_survey_127 (fun k_r_17 => ?_)
          refine lv_iload C.1 C.2.1 dX5_survey_130 (lv_at hl 0 rfl) ?_
          obtain ⟨g_18, hE⟩ := gd_e hE
          refine y_iald C hW k_r_17 g_18 dX5_survey_132 ?_
          obtain ⟨v_19, ev_19, hE⟩ := nm_e2 hE
          refine x_nmI ev_19 ?_
          refine lv_istore (lv' := [(12, .int v_19), (11, .int o_15.1), (10, .int v_10), (9, .int v_6), (4, .long v_4), (7, .long v_3), (0, .ref x0), (1, .int x1), (2, .long x2), (6, .int x6)]) C.1 C.2.1 dX5_survey_133 hl (by decide) rfl (fun ls hl => ?_)
          exact bX5_survey_135 C hk_30 F k_x0 hkm hW hZ _ (lv_sub hl [6, 7, 8, 4, 9, 1, 0] rfl) hE
        · have hE := br_p hE c_14
          refine lv_goto (tgt := 224) C.1 C.2.1 dX5_survey_110 (by decide) ?_
          exact bX5_survey_224 C hk_30 k_x0 hkm hW hZ _ (lv_sub hl [4, 5, 6, 2, 7] rfl) hE
set_option maxRecDepth 20000 in
theorem ct_X5_survey (l : Launch) (X : Ec) (F : Nat) {h : Hp} {x0 : Nat} {x1 : Int32} {o : Hp} (k_x0 : hK h x0 = 5) (hE : sX5_survey F h x0 x1 = some o) : MetV l yX5_survey cX5_survey 13 none 1 25 X [.ref x0, .int x1] h o := by
  refine x_met (by decide) (Nat.le_of_ble_eq_true rfl) ?_
  intro p e s m below meth c ls C hl hW hZ
  have hl : lv_has ls 13 [(0, .ref x0), (1, .int x1)] := hl
  have hkm : Km h h := Km.rf h
  refine lv_aload_n C.1 C.2.1 dX5_survey_0 rfl (lv_at hl 0 rfl) ?_
  obtain ⟨r_1, er_1, hE⟩ := cl_e hE
  refine gf_X5_71 C hW k_x0 er_1 dX5_survey_1 (fun k_r_1 => ?_)
  obtain ⟨o_2, eo_2, hE⟩ := cl_e hE
  refine x_kJ (o := o_2) (z_runV (As := []) (rest := []) C (ct_X3_occupied l X k_r_1 eo_2) cw_X5_138 hW hZ k_r_1 (by decide) rfl rfl rfl hl.1 (Nat.le_of_ble_eq_true rfl) rfl dX5_survey_4 ⟨Nat.le_of_ble_eq_true rfl, Nat.le_of_ble_eq_true rfl⟩ ⟨Nat.le_refl _, Nat.le_refl _⟩) hZ (fun _ _ hW km hZ => ?_)
  replace hkm := hkm.tr km
  replace k_x0 := km.at k_x0 (by decide)
  refine lv_lstore_n (lv' := [(2, .long o_2.1), (0, .ref x0), (1, .int x1)]) C.1 C.2.1 dX5_survey_7 rfl hl (by decide) rfl (fun ls hl => ?_)
  refine lv_aload_n C.1 C.2.1 dX5_survey_8 rfl (lv_at hl 1 rfl) ?_
  obtain ⟨r_3, er_3, hE⟩ := cl_e hE
  refine gf_X5_71 C hW k_x0 er_3 dX5_survey_9 (fun k_r_3 => ?_)
  obtain ⟨r_4, er_4, hE⟩ := cl_e hE
  refine gf_X5_33 C hW k_r_3 er_4 dX5_survey_12 (fun k_r_4 => ?_)
  refine lv_iconst (v := (1 : Int32)) C.1 C.2.1 dX5_survey_15 (by decide) ?_
  refine lv_aload_n C.1 C.2.1 dX5_survey_16 rfl (lv_at hl 1 rfl) ?_
  obtain ⟨r_5, er_5, hE⟩ := cl_e hE
  refine gf_X5_71 C hW k_x0 er_5 dX5_survey_17 (fun k_r_5 => ?_)
  refine gf_X5_78 C hW k_r_5 dX5_survey_20 ?_
  refine lv_isub C.1 C.2.1 dX5_survey_23 ?_
  obtain ⟨g_6, hE⟩ := gd_e hE
  refine y_lald C hW k_r_4 g_6 dX5_survey_24 ?_
  obtain ⟨v_7, ev_7, hE⟩ := nm_e2 hE
  refine x_nmJ ev_7 ?_
  refine lv_lstore (lv' := [(4, .long v_7), (2, .long o_2.1), (0, .ref x0), (1, .int x1)]) C.1 C.2.1 dX5_survey_25 hl (by decide) rfl (fun ls hl => ?_)
  refine lv_iconst (v := (0 : Int32)) C.1 C.2.1 dX5_survey_27 (by decide) ?_
  refine lv_istore (lv' := [(6, .int (0 : Int32)), (4, .long v_7), (2, .long o_2.1), (0, .ref x0), (1, .int x1)]) C.1 C.2.1 dX5_survey_28 hl (by decide) rfl (fun ls hl => ?_)
  exact bX5_survey_30 C F k_x0 hkm hW hZ _ (lv_sub hl [3, 4, 2, 1, 0] rfl) hE
