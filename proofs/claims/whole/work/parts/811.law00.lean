set_option maxRecDepth 100000 in
theorem m_60 : Cond.methodLink RX1 3 objectInit ∈ W0 := w0_in (List.mem_append_right _ (List.mem_of_getElem? (i := 60) rfl)) rfl
set_option maxRecDepth 100000 in
theorem m_119 : Cond.fieldLink RX1 9 (TX1 14).1 (TX1 14).2.1 (TX1 14).2.2.1 ∈ W0 := w0_in (List.mem_append_right _ (List.mem_of_getElem? (i := 119) rfl)) rfl
set_option maxRecDepth 100000 in
theorem m_121 : Cond.fieldLink RX1 15 (TX1 15).1 (TX1 15).2.1 (TX1 15).2.2.1 ∈ W0 := w0_in (List.mem_append_right _ (List.mem_of_getElem? (i := 121) rfl)) rfl
set_option maxRecDepth 100000 in
theorem m_124 : Cond.fieldLink RX1 18 (TX1 16).1 (TX1 16).2.1 (TX1 16).2.2.1 ∈ W0 := w0_in (List.mem_append_right _ (List.mem_of_getElem? (i := 124) rfl)) rfl
set_option maxRecDepth 100000 in
theorem m_127 : Cond.fieldLink RX1 21 (TX1 17).1 (TX1 17).2.1 (TX1 17).2.2.1 ∈ W0 := w0_in (List.mem_append_right _ (List.mem_of_getElem? (i := 127) rfl)) rfl
set_option maxRecDepth 100000 in
theorem m_131 : Cond.fieldLink RX1 24 (TX1 18).1 (TX1 18).2.1 (TX1 18).2.2.1 ∈ W0 := w0_in (List.mem_append_right _ (List.mem_of_getElem? (i := 131) rfl)) rfl
set_option maxRecDepth 100000 in
theorem m_135 : Cond.fieldLink RX1 27 (TX1 19).1 (TX1 19).2.1 (TX1 19).2.2.1 ∈ W0 := w0_in (List.mem_append_right _ (List.mem_of_getElem? (i := 135) rfl)) rfl
set_option maxRecDepth 100000 in
theorem m_141 : Cond.fieldLink RX1 30 (TX1 20).1 (TX1 20).2.1 (TX1 20).2.2.1 ∈ W0 := w0_in (List.mem_append_right _ (List.mem_of_getElem? (i := 141) rfl)) rfl
theorem i_X1 : ∀ w ∈ u_ws RX1 TX1 21, w ∈ W0 := by
  intro w hw
  exact w0_in (List.mem_append_right _ ((by decide +kernel : ∀ w ∈ u_ws RX1 TX1 21, w ∈ tables_1) w hw)) ((by decide +kernel : ∀ w ∈ u_ws RX1 TX1 21, goodWord w = true) w hw)
section
variable {p : Program} {l : Launch} {e : Env} {R : Room} {s : State} {m : MethodId} {args : Array Value} {below : List Frame} {meth : Method} {c : Code} {H : Heap} {locs : List Loc} {cells slots : Nat} {Q : State → Prop}
variable {cc : ByteArray} {pc : Nat} {ls : Array Slot} {rest : List Value} {X : Ec} {h h1 : Hp} {nL : Nat} {rt : Option FieldType} {mn : String}
theorem pf_X1_30 {a r : Nat} (C : Cx X p s m args meth c RX1 cc nL rt mn) (hW : Wx X h H) (hZ : va_S (aA (eB X)) s.heap H locs) (hmn : mn = "<init>") (ha : hK h a = 1) (hr : hK h r = 17) (eh : h1 = wR h a 20 (some r)) (hdg : decode cc pc = .ok (.putfield 30, 3)) (kk : ∀ (H1 : Heap) (locs1 : List Loc), Wx X h1 H1 → Km h h1 → va_S (aA (eB X)) s.heap H1 locs1 → W p l e R s m args below meth c H1 locs1 cells slots Q (F0 m (pc + 3) ls rest)) : W p l e R s m args below meth c H locs cells slots Q (F0 m pc ls (.ref r :: .ref a :: rest)) :=
  y_putrF (ty := .array .int) C hW hZ ha i_X1 tyX1 tyX1_ok nmX1 (by decide) rfl rfl (by decide) m_141 rfl hmn rfl (by decide +kernel) rfl rfl rfl hr rfl (by decide) eh hdg kk
theorem pf_X1_27 {a r : Nat} (C : Cx X p s m args meth c RX1 cc nL rt mn) (hW : Wx X h H) (hZ : va_S (aA (eB X)) s.heap H locs) (hmn : mn = "<init>") (ha : hK h a = 1) (hr : hK h r = 17) (eh : h1 = wR h a 19 (some r)) (hdg : decode cc pc = .ok (.putfield 27, 3)) (kk : ∀ (H1 : Heap) (locs1 : List Loc), Wx X h1 H1 → Km h h1 → va_S (aA (eB X)) s.heap H1 locs1 → W p l e R s m args below meth c H1 locs1 cells slots Q (F0 m (pc + 3) ls rest)) : W p l e R s m args below meth c H locs cells slots Q (F0 m pc ls (.ref r :: .ref a :: rest)) :=
  y_putrF (ty := .array .int) C hW hZ ha i_X1 tyX1 tyX1_ok nmX1 (by decide) rfl rfl (by decide) m_135 rfl hmn rfl (by decide +kernel) rfl rfl rfl hr rfl (by decide) eh hdg kk
theorem pf_X1_24 {a r : Nat} (C : Cx X p s m args meth c RX1 cc nL rt mn) (hW : Wx X h H) (hZ : va_S (aA (eB X)) s.heap H locs) (hmn : mn = "<init>") (ha : hK h a = 1) (hr : hK h r = 17) (eh : h1 = wR h a 18 (some r)) (hdg : decode cc pc = .ok (.putfield 24, 3)) (kk : ∀ (H1 : Heap) (locs1 : List Loc), Wx X h1 H1 → Km h h1 → va_S (aA (eB X)) s.heap H1 locs1 → W p l e R s m args below meth c H1 locs1 cells slots Q (F0 m (pc + 3) ls rest)) : W p l e R s m args below meth c H locs cells slots Q (F0 m pc ls (.ref r :: .ref a :: rest)) :=
  y_putrF (ty := .array .int) C hW hZ ha i_X1 tyX1 tyX1_ok nmX1 (by decide) rfl rfl (by decide) m_131 rfl hmn rfl (by decide +kernel) rfl rfl rfl hr rfl (by decide) eh hdg kk
theorem pf_X1_21 {a r : Nat} (C : Cx X p s m args meth c RX1 cc nL rt mn) (hW : Wx X h H) (hZ : va_S (aA (eB X)) s.heap H locs) (hmn : mn = "<init>") (ha : hK h a = 1) (hr : hK h r = 17) (eh : h1 = wR h a 17 (some r)) (hdg : decode cc pc = .ok (.putfield 21, 3)) (kk : ∀ (H1 : Heap) (locs1 : List Loc), Wx X h1 H1 → Km h h1 → va_S (aA (eB X)) s.heap H1 locs1 → W p l e R s m args below meth c H1 locs1 cells slots Q (F0 m (pc + 3) ls rest)) : W p l e R s m args below meth c H locs cells slots Q (F0 m pc ls (.ref r :: .ref a :: rest)) :=
  y_putrF (ty := .array .int) C hW hZ ha i_X1 tyX1 tyX1_ok nmX1 (by decide) rfl rfl (by decide) m_127 rfl hmn rfl (by decide +kernel) rfl rfl rfl hr rfl (by decide) eh hdg kk
theorem pf_X1_18 {a r : Nat} (C : Cx X p s m args meth c RX1 cc nL rt mn) (hW : Wx X h H) (hZ : va_S (aA (eB X)) s.heap H locs) (hmn : mn = "<init>") (ha : hK h a = 1) (hr : hK h r = 17) (eh : h1 = wR h a 16 (some r)) (hdg : decode cc pc = .ok (.putfield 18, 3)) (kk : ∀ (H1 : Heap) (locs1 : List Loc), Wx X h1 H1 → Km h h1 → va_S (aA (eB X)) s.heap H1 locs1 → W p l e R s m args below meth c H1 locs1 cells slots Q (F0 m (pc + 3) ls rest)) : W p l e R s m args below meth c H locs cells slots Q (F0 m pc ls (.ref r :: .ref a :: rest)) :=
  y_putrF (ty := .array .int) C hW hZ ha i_X1 tyX1 tyX1_ok nmX1 (by decide) rfl rfl (by decide) m_124 rfl hmn rfl (by decide +kernel) rfl rfl rfl hr rfl (by decide) eh hdg kk
theorem pf_X1_15 {a r : Nat} (C : Cx X p s m args meth c RX1 cc nL rt mn) (hW : Wx X h H) (hZ : va_S (aA (eB X)) s.heap H locs) (hmn : mn = "<init>") (ha : hK h a = 1) (hr : hK h r = 17) (eh : h1 = wR h a 15 (some r)) (hdg : decode cc pc = .ok (.putfield 15, 3)) (kk : ∀ (H1 : Heap) (locs1 : List Loc), Wx X h1 H1 → Km h h1 → va_S (aA (eB X)) s.heap H1 locs1 → W p l e R s m args below meth c H1 locs1 cells slots Q (F0 m (pc + 3) ls rest)) : W p l e R s m args below meth c H locs cells slots Q (F0 m pc ls (.ref r :: .ref a :: rest)) :=
  y_putrF (ty := .array .int) C hW hZ ha i_X1 tyX1 tyX1_ok nmX1 (by decide) rfl rfl (by decide) m_121 rfl hmn rfl (by decide +kernel) rfl rfl rfl hr rfl (by decide) eh hdg kk
theorem pf_X1_9 {a r : Nat} (C : Cx X p s m args meth c RX1 cc nL rt mn) (hW : Wx X h H) (hZ : va_S (aA (eB X)) s.heap H locs) (hmn : mn = "<init>") (ha : hK h a = 1) (hr : hK h r = 17) (eh : h1 = wR h a 14 (some r)) (hdg : decode cc pc = .ok (.putfield 9, 3)) (kk : ∀ (H1 : Heap) (locs1 : List Loc), Wx X h1 H1 → Km h h1 → va_S (aA (eB X)) s.heap H1 locs1 → W p l e R s m args below meth c H1 locs1 cells slots Q (F0 m (pc + 3) ls rest)) : W p l e R s m args below meth c H locs cells slots Q (F0 m pc ls (.ref r :: .ref a :: rest)) :=
  y_putrF (ty := .array .int) C hW hZ ha i_X1 tyX1 tyX1_ok nmX1 (by decide) rfl rfl (by decide) m_119 rfl hmn rfl (by decide +kernel) rfl rfl rfl hr rfl (by decide) eh hdg kk
end
theorem dX1_init_0 : decode cX1_init 0 = .ok (.aload_n 0, 1) := by decide +kernel
theorem dX1_init_1 : decode cX1_init 1 = .ok (.invokespecial 3, 3) := by decide +kernel
theorem dX1_init_4 : decode cX1_init 4 = .ok (.aload_n 0, 1) := by decide +kernel
theorem dX1_init_5 : decode cX1_init 5 = .ok (.bipush 12, 2) := by decide +kernel
theorem dX1_init_7 : decode cX1_init 7 = .ok (.newarray .int, 2) := by decide +kernel
theorem dX1_init_9 : decode cX1_init 9 = .ok (.putfield 9, 3) := by decide +kernel
theorem dX1_init_12 : decode cX1_init 12 = .ok (.aload_n 0, 1) := by decide +kernel
theorem dX1_init_13 : decode cX1_init 13 = .ok (.bipush 96, 2) := by decide +kernel
theorem dX1_init_15 : decode cX1_init 15 = .ok (.newarray .int, 2) := by decide +kernel
theorem dX1_init_17 : decode cX1_init 17 = .ok (.putfield 15, 3) := by decide +kernel
theorem dX1_init_20 : decode cX1_init 20 = .ok (.aload_n 0, 1) := by decide +kernel
theorem dX1_init_21 : decode cX1_init 21 = .ok (.bipush 12, 2) := by decide +kernel
theorem dX1_init_23 : decode cX1_init 23 = .ok (.newarray .int, 2) := by decide +kernel
theorem dX1_init_25 : decode cX1_init 25 = .ok (.putfield 18, 3) := by decide +kernel
theorem dX1_init_28 : decode cX1_init 28 = .ok (.aload_n 0, 1) := by decide +kernel
theorem dX1_init_29 : decode cX1_init 29 = .ok (.bipush 72, 2) := by decide +kernel
theorem dX1_init_31 : decode cX1_init 31 = .ok (.newarray .int, 2) := by decide +kernel
theorem dX1_init_33 : decode cX1_init 33 = .ok (.putfield 21, 3) := by decide +kernel
theorem dX1_init_36 : decode cX1_init 36 = .ok (.aload_n 0, 1) := by decide +kernel
theorem dX1_init_37 : decode cX1_init 37 = .ok (.bipush 12, 2) := by decide +kernel
theorem dX1_init_39 : decode cX1_init 39 = .ok (.newarray .int, 2) := by decide +kernel
theorem dX1_init_41 : decode cX1_init 41 = .ok (.putfield 24, 3) := by decide +kernel
theorem dX1_init_44 : decode cX1_init 44 = .ok (.aload_n 0, 1) := by decide +kernel
theorem dX1_init_45 : decode cX1_init 45 = .ok (.bipush 64, 2) := by decide +kernel
theorem dX1_init_47 : decode cX1_init 47 = .ok (.newarray .int, 2) := by decide +kernel
theorem dX1_init_49 : decode cX1_init 49 = .ok (.putfield 27, 3) := by decide +kernel
theorem dX1_init_52 : decode cX1_init 52 = .ok (.aload_n 0, 1) := by decide +kernel
theorem dX1_init_53 : decode cX1_init 53 = .ok (.bipush 64, 2) := by decide +kernel
theorem dX1_init_55 : decode cX1_init 55 = .ok (.newarray .int, 2) := by decide +kernel
theorem dX1_init_57 : decode cX1_init 57 = .ok (.putfield 30, 3) := by decide +kernel
theorem dX1_init_60 : decode cX1_init 60 = .ok (.return_, 1) := by decide +kernel
set_option maxRecDepth 20000 in
theorem moX1_init_57 {o : Hp} {h : Hp} {t0 : Nat} {t1 : Nat} (hE : sX1_init_57 h  t0 t1 = some o) : Le h o := by
  obtain ⟨h_1, eh_1, hE⟩ := nm_e2 hE
  refine (le_R eh_1).tr ?_
  exact le_some1 hE
set_option maxRecDepth 20000 in
theorem moX1_init_49 {o : Hp} {h : Hp} {x0 : Nat} {t0 : Nat} {t1 : Nat} (hE : sX1_init_49 h x0 t0 t1 = some o) : Le h o := by
  obtain ⟨h_1, eh_1, hE⟩ := nm_e2 hE
  refine (le_R eh_1).tr ?_
  obtain ⟨a_2, ea_2, hE⟩ := nm_e2 hE
  obtain ⟨h_3, eh_3, hE⟩ := nm_e2 hE
  refine (le_C eh_3).tr ?_
  exact moX1_init_57 hE
set_option maxRecDepth 20000 in
theorem moX1_init_41 {o : Hp} {h : Hp} {x0 : Nat} {t0 : Nat} {t1 : Nat} (hE : sX1_init_41 h x0 t0 t1 = some o) : Le h o := by
  obtain ⟨h_1, eh_1, hE⟩ := nm_e2 hE
  refine (le_R eh_1).tr ?_
  obtain ⟨a_2, ea_2, hE⟩ := nm_e2 hE
  obtain ⟨h_3, eh_3, hE⟩ := nm_e2 hE
  refine (le_C eh_3).tr ?_
  exact moX1_init_49 hE
set_option maxRecDepth 20000 in
theorem moX1_init_33 {o : Hp} {h : Hp} {x0 : Nat} {t0 : Nat} {t1 : Nat} (hE : sX1_init_33 h x0 t0 t1 = some o) : Le h o := by
  obtain ⟨h_1, eh_1, hE⟩ := nm_e2 hE
  refine (le_R eh_1).tr ?_
  obtain ⟨a_2, ea_2, hE⟩ := nm_e2 hE
  obtain ⟨h_3, eh_3, hE⟩ := nm_e2 hE
  refine (le_C eh_3).tr ?_
  exact moX1_init_41 hE
set_option maxRecDepth 20000 in
theorem moX1_init_25 {o : Hp} {h : Hp} {x0 : Nat} {t0 : Nat} {t1 : Nat} (hE : sX1_init_25 h x0 t0 t1 = some o) : Le h o := by
  obtain ⟨h_1, eh_1, hE⟩ := nm_e2 hE
  refine (le_R eh_1).tr ?_
  obtain ⟨a_2, ea_2, hE⟩ := nm_e2 hE
  obtain ⟨h_3, eh_3, hE⟩ := nm_e2 hE
  refine (le_C eh_3).tr ?_
  exact moX1_init_33 hE
set_option maxRecDepth 20000 in
theorem moX1_init_17 {o : Hp} {h : Hp} {x0 : Nat} {t0 : Nat} {t1 : Nat} (hE : sX1_init_17 h x0 t0 t1 = some o) : Le h o := by
  obtain ⟨h_1, eh_1, hE⟩ := nm_e2 hE
  refine (le_R eh_1).tr ?_
  obtain ⟨a_2, ea_2, hE⟩ := nm_e2 hE
  obtain ⟨h_3, eh_3, hE⟩ := nm_e2 hE
  refine (le_C eh_3).tr ?_
  exact moX1_init_25 hE
set_option maxRecDepth 20000 in
theorem moX1_init_9 {o : Hp} {h : Hp} {x0 : Nat} {t0 : Nat} {t1 : Nat} (hE : sX1_init_9 h x0 t0 t1 = some o) : Le h o := by
  obtain ⟨h_1, eh_1, hE⟩ := nm_e2 hE
  refine (le_R eh_1).tr ?_
  obtain ⟨a_2, ea_2, hE⟩ := nm_e2 hE
  obtain ⟨h_3, eh_3, hE⟩ := nm_e2 hE
  refine (le_C eh_3).tr ?_
  exact moX1_init_17 hE
set_option maxRecDepth 20000 in
theorem moX1_init {o : Hp} {h : Hp} {x0 : Nat} (hE : sX1_init h x0 = some o) : Le h o := by
  obtain ⟨a_1, ea_1, hE⟩ := nm_e2 hE
  obtain ⟨h_2, eh_2, hE⟩ := nm_e2 hE
  refine (le_C eh_2).tr ?_
  exact moX1_init_9 hE
set_option maxRecDepth 20000 in
theorem bX1_init_57 {p : Program} {l : Launch} {e : Env} {s : State} {m : MethodId} {args : Array Value} {below : List Frame} {meth : Method} {c : Code} {X : Ec} {h0 : Hp} {o : Hp} (C : Cx X p s m args meth c RX1 cX1_init 1 none "<init>") {h : Hp} {t0 : Nat} {t1 : Nat} {H : Heap} {locs : List Loc} (k_t0 : hK h t0 = 17) (k_t1 : hK h t1 = 1) (hkl : Kl h0 h) (hW : Wx X h H) (hZ : va_S (aA (eB X)) s.heap H locs) (ls : Array Slot) (hl : lv_has ls 1 []) (hE : sX1_init_57 h  t0 t1 = some o) : W p l e (rmA 1 20 h0 o) s m args below meth c H locs (hS h - hS h0) (hL h - hL h0) (MQ below (QVA X h0 o) args s (hS o - hS h0) (hL o - hL h0) (aA (eB X))) (F0 m 57 ls [.ref t0, .ref t1]) := by
  obtain ⟨h_1, eh_1, hE⟩ := nm_e2 hE
  refine pf_X1_30 C hW hZ rfl k_t1 k_t0 eh_1 dX1_init_57 (fun _ _ hW km hZ => ?_)
  replace hkl := hkl.tr km.l
  refine x_wc km ?_
  exact x_vretA C rfl hW hZ hkl hE dX1_init_60
set_option maxRecDepth 20000 in
theorem bX1_init_49 {p : Program} {l : Launch} {e : Env} {s : State} {m : MethodId} {args : Array Value} {below : List Frame} {meth : Method} {c : Code} {X : Ec} {h0 : Hp} {o : Hp} (C : Cx X p s m args meth c RX1 cX1_init 1 none "<init>") {h : Hp} {x0 : Nat} {t0 : Nat} {t1 : Nat} {H : Heap} {locs : List Loc} (k_x0 : hK h x0 = 1) (k_t0 : hK h t0 = 17) (k_t1 : hK h t1 = 1) (hkl : Kl h0 h) (hW : Wx X h H) (hZ : va_S (aA (eB X)) s.heap H locs) (ls : Array Slot) (hl : lv_has ls 1 [(0, .ref x0)]) (hE : sX1_init_49 h x0 t0 t1 = some o) : W p l e (rmA 1 20 h0 o) s m args below meth c H locs (hS h - hS h0) (hL h - hL h0) (MQ below (QVA X h0 o) args s (hS o - hS h0) (hL o - hL h0) (aA (eB X))) (F0 m 49 ls [.ref t0, .ref t1]) := by
  obtain ⟨h_1, eh_1, hE⟩ := nm_e2 hE
  refine pf_X1_27 C hW hZ rfl k_t1 k_t0 eh_1 dX1_init_49 (fun _ _ hW km hZ => ?_)
  replace hkl := hkl.tr km.l
  refine x_wc km ?_
  replace k_x0 := km.at k_x0 (by decide)
  refine lv_aload_n C.1 C.2.1 dX1_init_52 rfl (lv_at hl 0 rfl) ?_
  refine lv_bipush (v := (64 : Int32)) C.1 C.2.1 dX1_init_53 (by decide) ?_
  obtain ⟨a_2, ea_2, hE⟩ := nm_e2 hE
  obtain ⟨h_3, eh_3, hE⟩ := nm_e2 hE
  refine y_newa (k := 17) (ty := .int) (t0 := 1) C hW hZ hkl (moX1_init_57 hE) ⟨rfl, rfl⟩ (by decide) (by decide) rfl rfl (by intro C hC; cases hC) hdef_17 m_54 (by decide) (by decide) eh_3 dX1_init_55 (fun _ hW km k_a_2 hZ => ?_)
  replace hkl := hkl.tr km
  refine x_nmA ea_2 ?_
  rw [← ea_2] at k_a_2
  replace k_x0 := km.at k_x0 (by decide)
  exact bX1_init_57 C k_a_2 k_x0 hkl hW hZ _ (lv_sub hl [] rfl) hE
set_option maxRecDepth 20000 in
theorem bX1_init_41 {p : Program} {l : Launch} {e : Env} {s : State} {m : MethodId} {args : Array Value} {below : List Frame} {meth : Method} {c : Code} {X : Ec} {h0 : Hp} {o : Hp} (C : Cx X p s m args meth c RX1 cX1_init 1 none "<init>") {h : Hp} {x0 : Nat} {t0 : Nat} {t1 : Nat} {H : Heap} {locs : List Loc} (k_x0 : hK h x0 = 1) (k_t0 : hK h t0 = 17) (k_t1 : hK h t1 = 1) (hkl : Kl h0 h) (hW : Wx X h H) (hZ : va_S (aA (eB X)) s.heap H locs) (ls : Array Slot) (hl : lv_has ls 1 [(0, .ref x0)]) (hE : sX1_init_41 h x0 t0 t1 = some o) : W p l e (rmA 1 20 h0 o) s m args below meth c H locs (hS h - hS h0) (hL h - hL h0) (MQ below (QVA X h0 o) args s (hS o - hS h0) (hL o - hL h0) (aA (eB X))) (F0 m 41 ls [.ref t0, .ref t1]) := by
  obtain ⟨h_1, eh_1, hE⟩ := nm_e2 hE
  refine pf_X1_24 C hW hZ rfl k_t1 k_t0 eh_1 dX1_init_41 (fun _ _ hW km hZ => ?_)
  replace hkl := hkl.tr km.l
  refine x_wc km ?_
  replace k_x0 := km.at k_x0 (by decide)
  refine lv_aload_n C.1 C.2.1 dX1_init_44 rfl (lv_at hl 0 rfl) ?_
  refine lv_bipush (v := (64 : Int32)) C.1 C.2.1 dX1_init_45 (by decide) ?_
  obtain ⟨a_2, ea_2, hE⟩ := nm_e2 hE
  obtain ⟨h_3, eh_3, hE⟩ := nm_e2 hE
  refine y_newa (k := 17) (ty := .int) (t0 := 1) C hW hZ hkl (moX1_init_49 hE) ⟨rfl, rfl⟩ (by decide) (by decide) rfl rfl (by intro C hC; cases hC) hdef_17 m_54 (by decide) (by decide) eh_3 dX1_init_47 (fun _ hW km k_a_2 hZ => ?_)
  replace hkl := hkl.tr km
  refine x_nmA ea_2 ?_
  rw [← ea_2] at k_a_2
  replace k_x0 := km.at k_x0 (by decide)
  exact bX1_init_49 C k_x0 k_a_2 k_x0 hkl hW hZ _ (lv_sub hl [0] rfl) hE
set_option maxRecDepth 20000 in
theorem bX1_init_33 {p : Program} {l : Launch} {e : Env} {s : State} {m : MethodId} {args : Array Value} {below : List Frame} {meth : Method} {c : Code} {X : Ec} {h0 : Hp} {o : Hp} (C : Cx X p s m args meth c RX1 cX1_init 1 none "<init>") {h : Hp} {x0 : Nat} {t0 : Nat} {t1 : Nat} {H : Heap} {locs : List Loc} (k_x0 : hK h x0 = 1) (k_t0 : hK h t0 = 17) (k_t1 : hK h t1 = 1) (hkl : Kl h0 h) (hW : Wx X h H) (hZ : va_S (aA (eB X)) s.heap H locs) (ls : Array Slot) (hl : lv_has ls 1 [(0, .ref x0)]) (hE : sX1_init_33 h x0 t0 t1 = some o) : W p l e (rmA 1 20 h0 o) s m args below meth c H locs (hS h - hS h0) (hL h - hL h0) (MQ below (QVA X h0 o) args s (hS o - hS h0) (hL o - hL h0) (aA (eB X))) (F0 m 33 ls [.ref t0, .ref t1]) := by
  obtain ⟨h_1, eh_1, hE⟩ := nm_e2 hE
  refine pf_X1_21 C hW hZ rfl k_t1 k_t0 eh_1 dX1_init_33 (fun _ _ hW km hZ => ?_)
  replace hkl := hkl.tr km.l
  refine x_wc km ?_
  replace k_x0 := km.at k_x0 (by decide)
  refine lv_aload_n C.1 C.2.1 dX1_init_36 rfl (lv_at hl 0 rfl) ?_
  refine lv_bipush (v := (12 : Int32)) C.1 C.2.1 dX1_init_37 (by decide) ?_
  obtain ⟨a_2, ea_2, hE⟩ := nm_e2 hE
  obtain ⟨h_3, eh_3, hE⟩ := nm_e2 hE
  refine y_newa (k := 17) (ty := .int) (t0 := 1) C hW hZ hkl (moX1_init_41 hE) ⟨rfl, rfl⟩ (by decide) (by decide) rfl rfl (by intro C hC; cases hC) hdef_17 m_54 (by decide) (by decide) eh_3 dX1_init_39 (fun _ hW km k_a_2 hZ => ?_)
  replace hkl := hkl.tr km
  refine x_nmA ea_2 ?_
  rw [← ea_2] at k_a_2
  replace k_x0 := km.at k_x0 (by decide)
  exact bX1_init_41 C k_x0 k_a_2 k_x0 hkl hW hZ _ (lv_sub hl [0] rfl) hE
set_option maxRecDepth 20000 in
theorem bX1_init_25 {p : Program} {l : Launch} {e : Env} {s : State} {m : MethodId} {args : Array Value} {below : List Frame} {meth : Method} {c : Code} {X : Ec} {h0 : Hp} {o : Hp} (C : Cx X p s m args meth c RX1 cX1_init 1 none "<init>") {h : Hp} {x0 : Nat} {t0 : Nat} {t1 : Nat} {H : Heap} {locs : List Loc} (k_x0 : hK h x0 = 1) (k_t0 : hK h t0 = 17) (k_t1 : hK h t1 = 1) (hkl : Kl h0 h) (hW : Wx X h H) (hZ : va_S (aA (eB X)) s.heap H locs) (ls : Array Slot) (hl : lv_has ls 1 [(0, .ref x0)]) (hE : sX1_init_25 h x0 t0 t1 = some o) : W p l e (rmA 1 20 h0 o) s m args below meth c H locs (hS h - hS h0) (hL h - hL h0) (MQ below (QVA X h0 o) args s (hS o - hS h0) (hL o - hL h0) (aA (eB X))) (F0 m 25 ls [.ref t0, .ref t1]) := by
  obtain ⟨h_1, eh_1, hE⟩ := nm_e2 hE
  refine pf_X1_18 C hW hZ rfl k_t1 k_t0 eh_1 dX1_init_25 (fun _ _ hW km hZ => ?_)
  replace hkl := hkl.tr km.l
  refine x_wc km ?_
  replace k_x0 := km.at k_x0 (by decide)
  refine lv_aload_n C.1 C.2.1 dX1_init_28 rfl (lv_at hl 0 rfl) ?_
  refine lv_bipush (v := (72 : Int32)) C.1 C.2.1 dX1_init_29 (by decide) ?_
  obtain ⟨a_2, ea_2, hE⟩ := nm_e2 hE
  obtain ⟨h_3, eh_3, hE⟩ := nm_e2 hE
  refine y_newa (k := 17) (ty := .int) (t0 := 1) C hW hZ hkl (moX1_init_33 hE) ⟨rfl, rfl⟩ (by decide) (by decide) rfl rfl (by intro C hC; cases hC) hdef_17 m_54 (by decide) (by decide) eh_3 dX1_init_31 (fun _ hW km k_a_2 hZ => ?_)
  replace hkl := hkl.tr km
  refine x_nmA ea_2 ?_
  rw [← ea_2] at k_a_2
  replace k_x0 := km.at k_x0 (by decide)
  exact bX1_init_33 C k_x0 k_a_2 k_x0 hkl hW hZ _ (lv_sub hl [0] rfl) hE
set_option maxRecDepth 20000 in
theorem bX1_init_17 {p : Program} {l : Launch} {e : Env} {s : State} {m : MethodId} {args : Array Value} {below : List Frame} {meth : Method} {c : Code} {X : Ec} {h0 : Hp} {o : Hp} (C : Cx X p s m args meth c RX1 cX1_init 1 none "<init>") {h : Hp} {x0 : Nat} {t0 : Nat} {t1 : Nat} {H : Heap} {locs : List Loc} (k_x0 : hK h x0 = 1) (k_t0 : hK h t0 = 17) (k_t1 : hK h t1 = 1) (hkl : Kl h0 h) (hW : Wx X h H) (hZ : va_S (aA (eB X)) s.heap H locs) (ls : Array Slot) (hl : lv_has ls 1 [(0, .ref x0)]) (hE : sX1_init_17 h x0 t0 t1 = some o) : W p l e (rmA 1 20 h0 o) s m args below meth c H locs (hS h - hS h0) (hL h - hL h0) (MQ below (QVA X h0 o) args s (hS o - hS h0) (hL o - hL h0) (aA (eB X))) (F0 m 17 ls [.ref t0, .ref t1]) := by
  obtain ⟨h_1, eh_1, hE⟩ := nm_e2 hE
  refine pf_X1_15 C hW hZ rfl k_t1 k_t0 eh_1 dX1_init_17 (fun _ _ hW km hZ => ?_)
  replace hkl := hkl.tr km.l
  refine x_wc km ?_
  replace k_x0 := km.at k_x0 (by decide)
  refine lv_aload_n C.1 C.2.1 dX1_init_20 rfl (lv_at hl 0 rfl) ?_
  refine lv_bipush (v := (12 : Int32)) C.1 C.2.1 dX1_init_21 (by decide) ?_
  obtain ⟨a_2, ea_2, hE⟩ := nm_e2 hE
  obtain ⟨h_3, eh_3, hE⟩ := nm_e2 hE
  refine y_newa (k := 17) (ty := .int) (t0 := 1) C hW hZ hkl (moX1_init_25 hE) ⟨rfl, rfl⟩ (by decide) (by decide) rfl rfl (by intro C hC; cases hC) hdef_17 m_54 (by decide) (by decide) eh_3 dX1_init_23 (fun _ hW km k_a_2 hZ => ?_)
  replace hkl := hkl.tr km
  refine x_nmA ea_2 ?_
  rw [← ea_2] at k_a_2
  replace k_x0 := km.at k_x0 (by decide)
  exact bX1_init_25 C k_x0 k_a_2 k_x0 hkl hW hZ _ (lv_sub hl [0] rfl) hE
set_option maxRecDepth 20000 in
theorem bX1_init_9 {p : Program} {l : Launch} {e : Env} {s : State} {m : MethodId} {args : Array Value} {below : List Frame} {meth : Method} {c : Code} {X : Ec} {h0 : Hp} {o : Hp} (C : Cx X p s m args meth c RX1 cX1_init 1 none "<init>") {h : Hp} {x0 : Nat} {t0 : Nat} {t1 : Nat} {H : Heap} {locs : List Loc} (k_x0 : hK h x0 = 1) (k_t0 : hK h t0 = 17) (k_t1 : hK h t1 = 1) (hkl : Kl h0 h) (hW : Wx X h H) (hZ : va_S (aA (eB X)) s.heap H locs) (ls : Array Slot) (hl : lv_has ls 1 [(0, .ref x0)]) (hE : sX1_init_9 h x0 t0 t1 = some o) : W p l e (rmA 1 20 h0 o) s m args below meth c H locs (hS h - hS h0) (hL h - hL h0) (MQ below (QVA X h0 o) args s (hS o - hS h0) (hL o - hL h0) (aA (eB X))) (F0 m 9 ls [.ref t0, .ref t1]) := by
  obtain ⟨h_1, eh_1, hE⟩ := nm_e2 hE
  refine pf_X1_9 C hW hZ rfl k_t1 k_t0 eh_1 dX1_init_9 (fun _ _ hW km hZ => ?_)
  replace hkl := hkl.tr km.l
  refine x_wc km ?_
  replace k_x0 := km.at k_x0 (by decide)
  refine lv_aload_n C.1 C.2.1 dX1_init_12 rfl (lv_at hl 0 rfl) ?_
  refine lv_bipush (v := (96 : Int32)) C.1 C.2.1 dX1_init_13 (by decide) ?_
  obtain ⟨a_2, ea_2, hE⟩ := nm_e2 hE
  obtain ⟨h_3, eh_3, hE⟩ := nm_e2 hE
  refine y_newa (k := 17) (ty := .int) (t0 := 1) C hW hZ hkl (moX1_init_17 hE) ⟨rfl, rfl⟩ (by decide) (by decide) rfl rfl (by intro C hC; cases hC) hdef_17 m_54 (by decide) (by decide) eh_3 dX1_init_15 (fun _ hW km k_a_2 hZ => ?_)
  replace hkl := hkl.tr km
  refine x_nmA ea_2 ?_
  rw [← ea_2] at k_a_2
  replace k_x0 := km.at k_x0 (by decide)
  exact bX1_init_17 C k_x0 k_a_2 k_x0 hkl hW hZ _ (lv_sub hl [0] rfl) hE
set_option maxRecDepth 20000 in
theorem ct_X1_init (l : Launch) (X : Ec) {h : Hp} {x0 : Nat} {o : Hp} (k_x0 : hK h x0 = 1) (hE : sX1_init h x0 = some o) : MetVA l yX1_init cX1_init 1 none 1 20 X [.ref x0] h o := by
  refine x_metA (oh := o) (by decide) (Nat.le_of_ble_eq_true rfl) ?_
  intro p e s m below meth c ls C hl hW hZ
  have hl : lv_has ls 1 [(0, .ref x0)] := hl
  have hkl : Kl h h := Kl.rf h
  refine lv_aload_n C.1 C.2.1 dX1_init_0 rfl (lv_at hl 0 rfl) ?_
  refine W.objInit C.1 C.2.1 C.2.2.2.1 (C.2.2.2.2.1 _ m_60) (C.2.2.2.2.1 _ m_32) (C.2.2.2.2.1 _ m_33) rfl (by rw [C.2.2.1]; exact hl.1) rfl dX1_init_1 (Nat.le_of_ble_eq_true rfl) (Nat.le_of_ble_eq_true rfl) ?_
  refine W.eq (g2 := F0 m 4 ls []) rfl ?_
  refine lv_aload_n C.1 C.2.1 dX1_init_4 rfl (lv_at hl 0 rfl) ?_
  refine lv_bipush (v := (12 : Int32)) C.1 C.2.1 dX1_init_5 (by decide) ?_
  obtain ⟨a_1, ea_1, hE⟩ := nm_e2 hE
  obtain ⟨h_2, eh_2, hE⟩ := nm_e2 hE
  refine y_newa (k := 17) (ty := .int) (t0 := 1) C hW hZ hkl (moX1_init_9 hE) ⟨rfl, rfl⟩ (by decide) (by decide) rfl rfl (by intro C hC; cases hC) hdef_17 m_54 (by decide) (by decide) eh_2 dX1_init_7 (fun _ hW km k_a_1 hZ => ?_)
  replace hkl := hkl.tr km
  refine x_nmA ea_1 ?_
  rw [← ea_1] at k_a_1
  replace k_x0 := km.at k_x0 (by decide)
  exact bX1_init_9 C k_x0 k_a_1 k_x0 hkl hW hZ _ (lv_sub hl [0] rfl) hE
set_option maxRecDepth 100000 in
theorem m_9 : Cond.initialized RJ7 ∈ W0 := w0_in (List.mem_append_right _ (List.mem_of_getElem? (i := 9) rfl)) rfl
set_option maxRecDepth 100000 in
theorem m_61 : Cond.fieldLink RX1 61 (TX1 0).1 (TX1 0).2.1 (TX1 0).2.2.1 ∈ W0 := w0_in (List.mem_append_right _ (List.mem_of_getElem? (i := 61) rfl)) rfl
set_option maxRecDepth 100000 in
theorem m_67 : Cond.fieldLink RX1 58 (TX1 1).1 (TX1 1).2.1 (TX1 1).2.2.1 ∈ W0 := w0_in (List.mem_append_right _ (List.mem_of_getElem? (i := 67) rfl)) rfl
set_option maxRecDepth 100000 in
theorem m_72 : Cond.fieldLink RX1 55 (TX1 2).1 (TX1 2).2.1 (TX1 2).2.2.1 ∈ W0 := w0_in (List.mem_append_right _ (List.mem_of_getElem? (i := 72) rfl)) rfl
set_option maxRecDepth 100000 in
theorem m_79 : Cond.fieldLink RX1 52 (TX1 3).1 (TX1 3).2.1 (TX1 3).2.2.1 ∈ W0 := w0_in (List.mem_append_right _ (List.mem_of_getElem? (i := 79) rfl)) rfl
set_option maxRecDepth 100000 in
theorem m_87 : Cond.fieldLink RX1 70 (TX1 4).1 (TX1 4).2.1 (TX1 4).2.2.1 ∈ W0 := w0_in (List.mem_append_right _ (List.mem_of_getElem? (i := 87) rfl)) rfl
set_option maxRecDepth 100000 in
theorem m_93 : Cond.fieldLink RX1 67 (TX1 5).1 (TX1 5).2.1 (TX1 5).2.2.1 ∈ W0 := w0_in (List.mem_append_right _ (List.mem_of_getElem? (i := 93) rfl)) rfl
set_option maxRecDepth 100000 in
theorem m_97 : Cond.fieldLink RX1 64 (TX1 6).1 (TX1 6).2.1 (TX1 6).2.2.1 ∈ W0 := w0_in (List.mem_append_right _ (List.mem_of_getElem? (i := 97) rfl)) rfl
set_option maxRecDepth 100000 in
theorem m_100 : Cond.fieldLink RX1 49 (TX1 7).1 (TX1 7).2.1 (TX1 7).2.2.1 ∈ W0 := w0_in (List.mem_append_right _ (List.mem_of_getElem? (i := 100) rfl)) rfl
set_option maxRecDepth 100000 in
theorem m_103 : Cond.fieldLink RX1 46 (TX1 8).1 (TX1 8).2.1 (TX1 8).2.2.1 ∈ W0 := w0_in (List.mem_append_right _ (List.mem_of_getElem? (i := 103) rfl)) rfl
set_option maxRecDepth 100000 in
theorem m_106 : Cond.fieldLink RX1 43 (TX1 9).1 (TX1 9).2.1 (TX1 9).2.2.1 ∈ W0 := w0_in (List.mem_append_right _ (List.mem_of_getElem? (i := 106) rfl)) rfl
set_option maxRecDepth 100000 in
theorem m_109 : Cond.fieldLink RX1 40 (TX1 10).1 (TX1 10).2.1 (TX1 10).2.2.1 ∈ W0 := w0_in (List.mem_append_right _ (List.mem_of_getElem? (i := 109) rfl)) rfl
set_option maxRecDepth 100000 in
theorem m_111 : Cond.fieldLink RX1 37 (TX1 11).1 (TX1 11).2.1 (TX1 11).2.2.1 ∈ W0 := w0_in (List.mem_append_right _ (List.mem_of_getElem? (i := 111) rfl)) rfl
set_option maxRecDepth 100000 in
theorem m_114 : Cond.fieldLink RX1 33 (TX1 12).1 (TX1 12).2.1 (TX1 12).2.2.1 ∈ W0 := w0_in (List.mem_append_right _ (List.mem_of_getElem? (i := 114) rfl)) rfl
set_option maxRecDepth 100000 in
theorem m_116 : Cond.fieldLink RX1 73 (TX1 13).1 (TX1 13).2.1 (TX1 13).2.2.1 ∈ W0 := w0_in (List.mem_append_right _ (List.mem_of_getElem? (i := 116) rfl)) rfl
set_option maxRecDepth 100000 in
theorem m_275 : Cond.static yJ7_fill_53178 ∈ W0 := w0_in (List.mem_append_right _ (List.mem_of_getElem? (i := 275) rfl)) rfl
set_option maxRecDepth 100000 in
theorem m_276 : Cond.code yJ7_fill_53178 cJ7_fill_53178 4 none ∈ W0 := w0_in (List.mem_append_right _ (List.mem_of_getElem? (i := 276) rfl)) rfl
set_option maxRecDepth 100000 in
theorem m_652 : Cond.methodLink RX1 77 yJ7_fill_53178 ∈ W0 := w0_in (List.mem_append_right _ (List.mem_of_getElem? (i := 652) rfl)) rfl
section
variable {p : Program} {l : Launch} {e : Env} {R : Room} {s : State} {m : MethodId} {args : Array Value} {below : List Frame} {meth : Method} {c : Code} {H : Heap} {locs : List Loc} {cells slots : Nat} {Q : State → Prop}
variable {cc : ByteArray} {pc : Nat} {ls : Array Slot} {rest : List Value} {X : Ec} {h h1 : Hp} {nL : Nat} {rt : Option FieldType} {mn : String}
theorem pf_X1_33 {a : Nat} {v : Int32} (C : Cx X p s m args meth c RX1 cc nL rt mn) (hW : Wx X h H) (hZ : va_S (aA (eB X)) s.heap H locs) (ha : hK h a = 1) (eh : h1 = wI h a 12 v) (hdg : decode cc pc = .ok (.putfield 33, 3)) (kk : ∀ (H1 : Heap) (locs1 : List Loc), Wx X h1 H1 → Km h h1 → va_S (aA (eB X)) s.heap H1 locs1 → W p l e R s m args below meth c H1 locs1 cells slots Q (F0 m (pc + 3) ls rest)) : W p l e R s m args below meth c H locs cells slots Q (F0 m pc ls (.int v :: .ref a :: rest)) :=
  y_puti (ty := .int) C hW hZ ha i_X1 tyX1 tyX1_ok nmX1 (by decide) rfl rfl (by decide) m_114 rfl (by decide +kernel) rfl rfl rfl eh hdg kk
theorem pf_X1_37 {a : Nat} {v : Int32} (C : Cx X p s m args meth c RX1 cc nL rt mn) (hW : Wx X h H) (hZ : va_S (aA (eB X)) s.heap H locs) (ha : hK h a = 1) (eh : h1 = wI h a 11 v) (hdg : decode cc pc = .ok (.putfield 37, 3)) (kk : ∀ (H1 : Heap) (locs1 : List Loc), Wx X h1 H1 → Km h h1 → va_S (aA (eB X)) s.heap H1 locs1 → W p l e R s m args below meth c H1 locs1 cells slots Q (F0 m (pc + 3) ls rest)) : W p l e R s m args below meth c H locs cells slots Q (F0 m pc ls (.int v :: .ref a :: rest)) :=
  y_puti (ty := .int) C hW hZ ha i_X1 tyX1 tyX1_ok nmX1 (by decide) rfl rfl (by decide) m_111 rfl (by decide +kernel) rfl rfl rfl eh hdg kk
theorem pf_X1_40 {a : Nat} {v : Int32} (C : Cx X p s m args meth c RX1 cc nL rt mn) (hW : Wx X h H) (hZ : va_S (aA (eB X)) s.heap H locs) (ha : hK h a = 1) (eh : h1 = wI h a 10 v) (hdg : decode cc pc = .ok (.putfield 40, 3)) (kk : ∀ (H1 : Heap) (locs1 : List Loc), Wx X h1 H1 → Km h h1 → va_S (aA (eB X)) s.heap H1 locs1 → W p l e R s m args below meth c H1 locs1 cells slots Q (F0 m (pc + 3) ls rest)) : W p l e R s m args below meth c H locs cells slots Q (F0 m pc ls (.int v :: .ref a :: rest)) :=
  y_puti (ty := .int) C hW hZ ha i_X1 tyX1 tyX1_ok nmX1 (by decide) rfl rfl (by decide) m_109 rfl (by decide +kernel) rfl rfl rfl eh hdg kk
theorem pf_X1_43 {a : Nat} {v : Int32} (C : Cx X p s m args meth c RX1 cc nL rt mn) (hW : Wx X h H) (hZ : va_S (aA (eB X)) s.heap H locs) (ha : hK h a = 1) (eh : h1 = wI h a 9 v) (hdg : decode cc pc = .ok (.putfield 43, 3)) (kk : ∀ (H1 : Heap) (locs1 : List Loc), Wx X h1 H1 → Km h h1 → va_S (aA (eB X)) s.heap H1 locs1 → W p l e R s m args below meth c H1 locs1 cells slots Q (F0 m (pc + 3) ls rest)) : W p l e R s m args below meth c H locs cells slots Q (F0 m pc ls (.int v :: .ref a :: rest)) :=
  y_puti (ty := .int) C hW hZ ha i_X1 tyX1 tyX1_ok nmX1 (by decide) rfl rfl (by decide) m_106 rfl (by decide +kernel) rfl rfl rfl eh hdg kk
theorem pf_X1_46 {a : Nat} {v : Int32} (C : Cx X p s m args meth c RX1 cc nL rt mn) (hW : Wx X h H) (hZ : va_S (aA (eB X)) s.heap H locs) (ha : hK h a = 1) (eh : h1 = wI h a 8 v) (hdg : decode cc pc = .ok (.putfield 46, 3)) (kk : ∀ (H1 : Heap) (locs1 : List Loc), Wx X h1 H1 → Km h h1 → va_S (aA (eB X)) s.heap H1 locs1 → W p l e R s m args below meth c H1 locs1 cells slots Q (F0 m (pc + 3) ls rest)) : W p l e R s m args below meth c H locs cells slots Q (F0 m pc ls (.int v :: .ref a :: rest)) :=
  y_puti (ty := .int) C hW hZ ha i_X1 tyX1 tyX1_ok nmX1 (by decide) rfl rfl (by decide) m_103 rfl (by decide +kernel) rfl rfl rfl eh hdg kk
theorem pf_X1_49 {a : Nat} {v : Int32} (C : Cx X p s m args meth c RX1 cc nL rt mn) (hW : Wx X h H) (hZ : va_S (aA (eB X)) s.heap H locs) (ha : hK h a = 1) (eh : h1 = wI h a 7 v) (hdg : decode cc pc = .ok (.putfield 49, 3)) (kk : ∀ (H1 : Heap) (locs1 : List Loc), Wx X h1 H1 → Km h h1 → va_S (aA (eB X)) s.heap H1 locs1 → W p l e R s m args below meth c H1 locs1 cells slots Q (F0 m (pc + 3) ls rest)) : W p l e R s m args below meth c H locs cells slots Q (F0 m pc ls (.int v :: .ref a :: rest)) :=
  y_puti (ty := .int) C hW hZ ha i_X1 tyX1 tyX1_ok nmX1 (by decide) rfl rfl (by decide) m_100 rfl (by decide +kernel) rfl rfl rfl eh hdg kk
theorem pf_X1_52 {a : Nat} {v : Int32} (C : Cx X p s m args meth c RX1 cc nL rt mn) (hW : Wx X h H) (hZ : va_S (aA (eB X)) s.heap H locs) (ha : hK h a = 1) (eh : h1 = wI h a 3 v) (hdg : decode cc pc = .ok (.putfield 52, 3)) (kk : ∀ (H1 : Heap) (locs1 : List Loc), Wx X h1 H1 → Km h h1 → va_S (aA (eB X)) s.heap H1 locs1 → W p l e R s m args below meth c H1 locs1 cells slots Q (F0 m (pc + 3) ls rest)) : W p l e R s m args below meth c H locs cells slots Q (F0 m pc ls (.int v :: .ref a :: rest)) :=
  y_puti (ty := .int) C hW hZ ha i_X1 tyX1 tyX1_ok nmX1 (by decide) rfl rfl (by decide) m_79 rfl (by decide +kernel) rfl rfl rfl eh hdg kk
theorem pf_X1_55 {a : Nat} {v : Int32} (C : Cx X p s m args meth c RX1 cc nL rt mn) (hW : Wx X h H) (hZ : va_S (aA (eB X)) s.heap H locs) (ha : hK h a = 1) (eh : h1 = wI h a 2 v) (hdg : decode cc pc = .ok (.putfield 55, 3)) (kk : ∀ (H1 : Heap) (locs1 : List Loc), Wx X h1 H1 → Km h h1 → va_S (aA (eB X)) s.heap H1 locs1 → W p l e R s m args below meth c H1 locs1 cells slots Q (F0 m (pc + 3) ls rest)) : W p l e R s m args below meth c H locs cells slots Q (F0 m pc ls (.int v :: .ref a :: rest)) :=
  y_puti (ty := .int) C hW hZ ha i_X1 tyX1 tyX1_ok nmX1 (by decide) rfl rfl (by decide) m_72 rfl (by decide +kernel) rfl rfl rfl eh hdg kk
theorem pf_X1_58 {a : Nat} {v : Int32} (C : Cx X p s m args meth c RX1 cc nL rt mn) (hW : Wx X h H) (hZ : va_S (aA (eB X)) s.heap H locs) (ha : hK h a = 1) (eh : h1 = wI h a 1 v) (hdg : decode cc pc = .ok (.putfield 58, 3)) (kk : ∀ (H1 : Heap) (locs1 : List Loc), Wx X h1 H1 → Km h h1 → va_S (aA (eB X)) s.heap H1 locs1 → W p l e R s m args below meth c H1 locs1 cells slots Q (F0 m (pc + 3) ls rest)) : W p l e R s m args below meth c H locs cells slots Q (F0 m pc ls (.int v :: .ref a :: rest)) :=
  y_puti (ty := .int) C hW hZ ha i_X1 tyX1 tyX1_ok nmX1 (by decide) rfl rfl (by decide) m_67 rfl (by decide +kernel) rfl rfl rfl eh hdg kk
theorem pf_X1_61 {a : Nat} {v : Int32} (C : Cx X p s m args meth c RX1 cc nL rt mn) (hW : Wx X h H) (hZ : va_S (aA (eB X)) s.heap H locs) (ha : hK h a = 1) (eh : h1 = wI h a 0 v) (hdg : decode cc pc = .ok (.putfield 61, 3)) (kk : ∀ (H1 : Heap) (locs1 : List Loc), Wx X h1 H1 → Km h h1 → va_S (aA (eB X)) s.heap H1 locs1 → W p l e R s m args below meth c H1 locs1 cells slots Q (F0 m (pc + 3) ls rest)) : W p l e R s m args below meth c H locs cells slots Q (F0 m pc ls (.int v :: .ref a :: rest)) :=
  y_puti (ty := .int) C hW hZ ha i_X1 tyX1 tyX1_ok nmX1 (by decide) rfl rfl (by decide) m_61 rfl (by decide +kernel) rfl rfl rfl eh hdg kk
theorem pf_X1_64 {a : Nat} {v : Int32} (C : Cx X p s m args meth c RX1 cc nL rt mn) (hW : Wx X h H) (hZ : va_S (aA (eB X)) s.heap H locs) (ha : hK h a = 1) (eh : h1 = wI h a 6 v) (hdg : decode cc pc = .ok (.putfield 64, 3)) (kk : ∀ (H1 : Heap) (locs1 : List Loc), Wx X h1 H1 → Km h h1 → va_S (aA (eB X)) s.heap H1 locs1 → W p l e R s m args below meth c H1 locs1 cells slots Q (F0 m (pc + 3) ls rest)) : W p l e R s m args below meth c H locs cells slots Q (F0 m pc ls (.int v :: .ref a :: rest)) :=
  y_puti (ty := .int) C hW hZ ha i_X1 tyX1 tyX1_ok nmX1 (by decide) rfl rfl (by decide) m_97 rfl (by decide +kernel) rfl rfl rfl eh hdg kk
theorem pf_X1_67 {a : Nat} {v : Int32} (C : Cx X p s m args meth c RX1 cc nL rt mn) (hW : Wx X h H) (hZ : va_S (aA (eB X)) s.heap H locs) (ha : hK h a = 1) (eh : h1 = wI h a 5 v) (hdg : decode cc pc = .ok (.putfield 67, 3)) (kk : ∀ (H1 : Heap) (locs1 : List Loc), Wx X h1 H1 → Km h h1 → va_S (aA (eB X)) s.heap H1 locs1 → W p l e R s m args below meth c H1 locs1 cells slots Q (F0 m (pc + 3) ls rest)) : W p l e R s m args below meth c H locs cells slots Q (F0 m pc ls (.int v :: .ref a :: rest)) :=
  y_puti (ty := .int) C hW hZ ha i_X1 tyX1 tyX1_ok nmX1 (by decide) rfl rfl (by decide) m_93 rfl (by decide +kernel) rfl rfl rfl eh hdg kk
theorem pf_X1_70 {a : Nat} {v : Int32} (C : Cx X p s m args meth c RX1 cc nL rt mn) (hW : Wx X h H) (hZ : va_S (aA (eB X)) s.heap H locs) (ha : hK h a = 1) (eh : h1 = wI h a 4 v) (hdg : decode cc pc = .ok (.putfield 70, 3)) (kk : ∀ (H1 : Heap) (locs1 : List Loc), Wx X h1 H1 → Km h h1 → va_S (aA (eB X)) s.heap H1 locs1 → W p l e R s m args below meth c H1 locs1 cells slots Q (F0 m (pc + 3) ls rest)) : W p l e R s m args below meth c H locs cells slots Q (F0 m pc ls (.int v :: .ref a :: rest)) :=
  y_puti (ty := .int) C hW hZ ha i_X1 tyX1 tyX1_ok nmX1 (by decide) rfl rfl (by decide) m_87 rfl (by decide +kernel) rfl rfl rfl eh hdg kk
theorem pf_X1_73 {a : Nat} {v : Int64} (C : Cx X p s m args meth c RX1 cc nL rt mn) (hW : Wx X h H) (hZ : va_S (aA (eB X)) s.heap H locs) (ha : hK h a = 1) (eh : h1 = wJ h a 13 v) (hdg : decode cc pc = .ok (.putfield 73, 3)) (kk : ∀ (H1 : Heap) (locs1 : List Loc), Wx X h1 H1 → Km h h1 → va_S (aA (eB X)) s.heap H1 locs1 → W p l e R s m args below meth c H1 locs1 cells slots Q (F0 m (pc + 3) ls rest)) : W p l e R s m args below meth c H locs cells slots Q (F0 m pc ls (.long v :: .ref a :: rest)) :=
  y_putj C hW hZ ha i_X1 tyX1 tyX1_ok nmX1 (by decide) rfl rfl (by decide) m_116 rfl (by decide +kernel) rfl eh hdg kk
theorem gf_X1_18 {a r : Nat} (C : Cx X p s m args meth c RX1 cc nL rt mn) (hW : Wx X h H) (ha : hK h a = 1) (hr : hR h a 16 = some r) (hdg : decode cc pc = .ok (.getfield 18, 3)) (kk : hK h r = 17 → W p l e R s m args below meth c H locs cells slots Q (F0 m (pc + 3) ls (.ref r :: rest))) : W p l e R s m args below meth c H locs cells slots Q (F0 m pc ls (.ref a :: rest)) :=
  y_getr C hW ha i_X1 (by decide) rfl (by decide) m_124 rfl rfl hr hdg kk
theorem gf_X1_24 {a r : Nat} (C : Cx X p s m args meth c RX1 cc nL rt mn) (hW : Wx X h H) (ha : hK h a = 1) (hr : hR h a 18 = some r) (hdg : decode cc pc = .ok (.getfield 24, 3)) (kk : hK h r = 17 → W p l e R s m args below meth c H locs cells slots Q (F0 m (pc + 3) ls (.ref r :: rest))) : W p l e R s m args below meth c H locs cells slots Q (F0 m pc ls (.ref a :: rest)) :=
  y_getr C hW ha i_X1 (by decide) rfl (by decide) m_131 rfl rfl hr hdg kk
end
theorem cw_X1_77 : cwd RX1 77 yJ7_fill_53178 cJ7_fill_53178 4 none true 2 := ⟨m_276, m_652, m_9, m_275, by decide, by decide, by decide +kernel⟩
theorem dX1_clear_0 : decode cX1_clear 0 = .ok (.aload_n 0, 1) := by decide +kernel
theorem dX1_clear_1 : decode cX1_clear 1 = .ok (.aload_n 0, 1) := by decide +kernel
theorem dX1_clear_2 : decode cX1_clear 2 = .ok (.aload_n 0, 1) := by decide +kernel
theorem dX1_clear_3 : decode cX1_clear 3 = .ok (.aload_n 0, 1) := by decide +kernel
theorem dX1_clear_4 : decode cX1_clear 4 = .ok (.aload_n 0, 1) := by decide +kernel
theorem dX1_clear_5 : decode cX1_clear 5 = .ok (.aload_n 0, 1) := by decide +kernel
theorem dX1_clear_6 : decode cX1_clear 6 = .ok (.aload_n 0, 1) := by decide +kernel
theorem dX1_clear_7 : decode cX1_clear 7 = .ok (.aload_n 0, 1) := by decide +kernel
theorem dX1_clear_8 : decode cX1_clear 8 = .ok (.aload_n 0, 1) := by decide +kernel
theorem dX1_clear_9 : decode cX1_clear 9 = .ok (.aload_n 0, 1) := by decide +kernel
theorem dX1_clear_10 : decode cX1_clear 10 = .ok (.iconst 0, 1) := by decide +kernel
theorem dX1_clear_11 : decode cX1_clear 11 = .ok (.dup_x1, 1) := by decide +kernel
theorem dX1_clear_12 : decode cX1_clear 12 = .ok (.putfield 33, 3) := by decide +kernel
theorem dX1_clear_15 : decode cX1_clear 15 = .ok (.dup_x1, 1) := by decide +kernel
theorem dX1_clear_16 : decode cX1_clear 16 = .ok (.putfield 37, 3) := by decide +kernel
theorem dX1_clear_19 : decode cX1_clear 19 = .ok (.dup_x1, 1) := by decide +kernel
theorem dX1_clear_20 : decode cX1_clear 20 = .ok (.putfield 40, 3) := by decide +kernel
theorem dX1_clear_23 : decode cX1_clear 23 = .ok (.dup_x1, 1) := by decide +kernel
theorem dX1_clear_24 : decode cX1_clear 24 = .ok (.putfield 43, 3) := by decide +kernel
theorem dX1_clear_27 : decode cX1_clear 27 = .ok (.dup_x1, 1) := by decide +kernel
theorem dX1_clear_28 : decode cX1_clear 28 = .ok (.putfield 46, 3) := by decide +kernel
theorem dX1_clear_31 : decode cX1_clear 31 = .ok (.dup_x1, 1) := by decide +kernel
theorem dX1_clear_32 : decode cX1_clear 32 = .ok (.putfield 49, 3) := by decide +kernel
theorem dX1_clear_35 : decode cX1_clear 35 = .ok (.dup_x1, 1) := by decide +kernel
theorem dX1_clear_36 : decode cX1_clear 36 = .ok (.putfield 52, 3) := by decide +kernel
theorem dX1_clear_39 : decode cX1_clear 39 = .ok (.dup_x1, 1) := by decide +kernel
theorem dX1_clear_40 : decode cX1_clear 40 = .ok (.putfield 55, 3) := by decide +kernel
theorem dX1_clear_43 : decode cX1_clear 43 = .ok (.dup_x1, 1) := by decide +kernel
theorem dX1_clear_44 : decode cX1_clear 44 = .ok (.putfield 58, 3) := by decide +kernel
theorem dX1_clear_47 : decode cX1_clear 47 = .ok (.putfield 61, 3) := by decide +kernel
theorem dX1_clear_50 : decode cX1_clear 50 = .ok (.aload_n 0, 1) := by decide +kernel
theorem dX1_clear_51 : decode cX1_clear 51 = .ok (.aload_n 0, 1) := by decide +kernel
theorem dX1_clear_52 : decode cX1_clear 52 = .ok (.aload_n 0, 1) := by decide +kernel
theorem dX1_clear_53 : decode cX1_clear 53 = .ok (.iconst (-1), 1) := by decide +kernel
theorem dX1_clear_54 : decode cX1_clear 54 = .ok (.dup_x1, 1) := by decide +kernel
theorem dX1_clear_55 : decode cX1_clear 55 = .ok (.putfield 64, 3) := by decide +kernel
theorem dX1_clear_58 : decode cX1_clear 58 = .ok (.dup_x1, 1) := by decide +kernel
theorem dX1_clear_59 : decode cX1_clear 59 = .ok (.putfield 67, 3) := by decide +kernel
theorem dX1_clear_62 : decode cX1_clear 62 = .ok (.putfield 70, 3) := by decide +kernel
theorem dX1_clear_65 : decode cX1_clear 65 = .ok (.aload_n 0, 1) := by decide +kernel
theorem dX1_clear_66 : decode cX1_clear 66 = .ok (.lconst 0, 1) := by decide +kernel
theorem dX1_clear_67 : decode cX1_clear 67 = .ok (.putfield 73, 3) := by decide +kernel
theorem dX1_clear_70 : decode cX1_clear 70 = .ok (.aload_n 0, 1) := by decide +kernel
theorem dX1_clear_71 : decode cX1_clear 71 = .ok (.getfield 18, 3) := by decide +kernel
theorem dX1_clear_74 : decode cX1_clear 74 = .ok (.iconst 0, 1) := by decide +kernel
theorem dX1_clear_75 : decode cX1_clear 75 = .ok (.invokestatic 77, 3) := by decide +kernel
theorem dX1_clear_78 : decode cX1_clear 78 = .ok (.aload_n 0, 1) := by decide +kernel
theorem dX1_clear_79 : decode cX1_clear 79 = .ok (.getfield 24, 3) := by decide +kernel
theorem dX1_clear_82 : decode cX1_clear 82 = .ok (.iconst 0, 1) := by decide +kernel
theorem dX1_clear_83 : decode cX1_clear 83 = .ok (.invokestatic 77, 3) := by decide +kernel
theorem dX1_clear_86 : decode cX1_clear 86 = .ok (.return_, 1) := by decide +kernel
set_option maxRecDepth 20000 in
theorem moX1_clear {o : Hp} {F : Nat} {h : Hp} {x0 : Nat} (hE : sX1_clear F h x0 = some o) : Le h o := by
  obtain ⟨h_1, eh_1, hE⟩ := nm_e2 hE
  refine (le_I eh_1).tr ?_
  obtain ⟨h_2, eh_2, hE⟩ := nm_e2 hE
  refine (le_I eh_2).tr ?_
  obtain ⟨h_3, eh_3, hE⟩ := nm_e2 hE
  refine (le_I eh_3).tr ?_
  obtain ⟨h_4, eh_4, hE⟩ := nm_e2 hE
  refine (le_I eh_4).tr ?_
  obtain ⟨h_5, eh_5, hE⟩ := nm_e2 hE
  refine (le_I eh_5).tr ?_
  obtain ⟨h_6, eh_6, hE⟩ := nm_e2 hE
  refine (le_I eh_6).tr ?_
  obtain ⟨h_7, eh_7, hE⟩ := nm_e2 hE
  refine (le_I eh_7).tr ?_
  obtain ⟨h_8, eh_8, hE⟩ := nm_e2 hE
  refine (le_I eh_8).tr ?_
  obtain ⟨h_9, eh_9, hE⟩ := nm_e2 hE
  refine (le_I eh_9).tr ?_
  obtain ⟨h_10, eh_10, hE⟩ := nm_e2 hE
  refine (le_I eh_10).tr ?_
  obtain ⟨h_11, eh_11, hE⟩ := nm_e2 hE
  refine (le_I eh_11).tr ?_
  obtain ⟨h_12, eh_12, hE⟩ := nm_e2 hE
  refine (le_I eh_12).tr ?_
  obtain ⟨h_13, eh_13, hE⟩ := nm_e2 hE
  refine (le_I eh_13).tr ?_
  obtain ⟨h_14, eh_14, hE⟩ := nm_e2 hE
  refine (le_J eh_14).tr ?_
  obtain ⟨r_15, er_15, hE⟩ := cl_e hE
  obtain ⟨o_16, eo_16, hE⟩ := cl_e hE
  refine (moJ7_fill_53178 eo_16).tr ?_
  obtain ⟨r_17, er_17, hE⟩ := cl_e hE
  obtain ⟨o_18, eo_18, hE⟩ := cl_e hE
  refine (moJ7_fill_53178 eo_18).tr ?_
  exact le_some1 hE
set_option maxRecDepth 20000 in
theorem ct_X1_clear (l : Launch) (X : Ec) (F : Nat) {h : Hp} {x0 : Nat} {o : Hp} (k_x0 : hK h x0 = 1) (hE : sX1_clear F h x0 = some o) : MetV l yX1_clear cX1_clear 1 none 1 23 X [.ref x0] h o := by
  refine x_met (by decide) (Nat.le_of_ble_eq_true rfl) ?_
  intro p e s m below meth c ls C hl hW hZ
  have hl : lv_has ls 1 [(0, .ref x0)] := hl
  have hkm : Km h h := Km.rf h
  refine lv_aload_n C.1 C.2.1 dX1_clear_0 rfl (lv_at hl 0 rfl) ?_
  refine lv_aload_n C.1 C.2.1 dX1_clear_1 rfl (lv_at hl 0 rfl) ?_
  refine lv_aload_n C.1 C.2.1 dX1_clear_2 rfl (lv_at hl 0 rfl) ?_
  refine lv_aload_n C.1 C.2.1 dX1_clear_3 rfl (lv_at hl 0 rfl) ?_
  refine lv_aload_n C.1 C.2.1 dX1_clear_4 rfl (lv_at hl 0 rfl) ?_
  refine lv_aload_n C.1 C.2.1 dX1_clear_5 rfl (lv_at hl 0 rfl) ?_
  refine lv_aload_n C.1 C.2.1 dX1_clear_6 rfl (lv_at hl 0 rfl) ?_
  refine lv_aload_n C.1 C.2.1 dX1_clear_7 rfl (lv_at hl 0 rfl) ?_
  refine lv_aload_n C.1 C.2.1 dX1_clear_8 rfl (lv_at hl 0 rfl) ?_
  refine lv_aload_n C.1 C.2.1 dX1_clear_9 rfl (lv_at hl 0 rfl) ?_
  refine lv_iconst (v := (0 : Int32)) C.1 C.2.1 dX1_clear_10 (by decide) ?_
  refine lv_dup_x1 C.1 C.2.1 dX1_clear_11 rfl rfl ?_
  obtain ⟨h_1, eh_1, hE⟩ := nm_e2 hE
  refine pf_X1_33 C hW hZ k_x0 eh_1 dX1_clear_12 (fun _ _ hW km hZ => ?_)
  replace hkm := hkm.tr km
  replace k_x0 := km.at k_x0 (by decide)
  refine lv_dup_x1 C.1 C.2.1 dX1_clear_15 rfl rfl ?_
  obtain ⟨h_2, eh_2, hE⟩ := nm_e2 hE
  refine pf_X1_37 C hW hZ k_x0 eh_2 dX1_clear_16 (fun _ _ hW km hZ => ?_)
  replace hkm := hkm.tr km
  replace k_x0 := km.at k_x0 (by decide)
  refine lv_dup_x1 C.1 C.2.1 dX1_clear_19 rfl rfl ?_
  obtain ⟨h_3, eh_3, hE⟩ := nm_e2 hE
  refine pf_X1_40 C hW hZ k_x0 eh_3 dX1_clear_20 (fun _ _ hW km hZ => ?_)
  replace hkm := hkm.tr km
  replace k_x0 := km.at k_x0 (by decide)
  refine lv_dup_x1 C.1 C.2.1 dX1_clear_23 rfl rfl ?_
  obtain ⟨h_4, eh_4, hE⟩ := nm_e2 hE
  refine pf_X1_43 C hW hZ k_x0 eh_4 dX1_clear_24 (fun _ _ hW km hZ => ?_)
  replace hkm := hkm.tr km
  replace k_x0 := km.at k_x0 (by decide)
  refine lv_dup_x1 C.1 C.2.1 dX1_clear_27 rfl rfl ?_
  obtain ⟨h_5, eh_5, hE⟩ := nm_e2 hE
  refine pf_X1_46 C hW hZ k_x0 eh_5 dX1_clear_28 (fun _ _ hW km hZ => ?_)
  replace hkm := hkm.tr km
  replace k_x0 := km.at k_x0 (by decide)
  refine lv_dup_x1 C.1 C.2.1 dX1_clear_31 rfl rfl ?_
  obtain ⟨h_6, eh_6, hE⟩ := nm_e2 hE
  refine pf_X1_49 C hW hZ k_x0 eh_6 dX1_clear_32 (fun _ _ hW km hZ => ?_)
  replace hkm := hkm.tr km
  replace k_x0 := km.at k_x0 (by decide)
  refine lv_dup_x1 C.1 C.2.1 dX1_clear_35 rfl rfl ?_
  obtain ⟨h_7, eh_7, hE⟩ := nm_e2 hE
  refine pf_X1_52 C hW hZ k_x0 eh_7 dX1_clear_36 (fun _ _ hW km hZ => ?_)
  replace hkm := hkm.tr km
  replace k_x0 := km.at k_x0 (by decide)
  refine lv_dup_x1 C.1 C.2.1 dX1_clear_39 rfl rfl ?_
  obtain ⟨h_8, eh_8, hE⟩ := nm_e2 hE
  refine pf_X1_55 C hW hZ k_x0 eh_8 dX1_clear_40 (fun _ _ hW km hZ => ?_)
  replace hkm := hkm.tr km
  replace k_x0 := km.at k_x0 (by decide)
  refine lv_dup_x1 C.1 C.2.1 dX1_clear_43 rfl rfl ?_
  obtain ⟨h_9, eh_9, hE⟩ := nm_e2 hE
  refine pf_X1_58 C hW hZ k_x0 eh_9 dX1_clear_44 (fun _ _ hW km hZ => ?_)
  replace hkm := hkm.tr km
  replace k_x0 := km.at k_x0 (by decide)
  obtain ⟨h_10, eh_10, hE⟩ := nm_e2 hE
  refine pf_X1_61 C hW hZ k_x0 eh_10 dX1_clear_47 (fun _ _ hW km hZ => ?_)
  replace hkm := hkm.tr km
  replace k_x0 := km.at k_x0 (by decide)
  refine lv_aload_n C.1 C.2.1 dX1_clear_50 rfl (lv_at hl 0 rfl) ?_
  refine lv_aload_n C.1 C.2.1 dX1_clear_51 rfl (lv_at hl 0 rfl) ?_
  refine lv_aload_n C.1 C.2.1 dX1_clear_52 rfl (lv_at hl 0 rfl) ?_
  refine lv_iconst (v := (-1 : Int32)) C.1 C.2.1 dX1_clear_53 (by decide) ?_
  refine lv_dup_x1 C.1 C.2.1 dX1_clear_54 rfl rfl ?_
  obtain ⟨h_11, eh_11, hE⟩ := nm_e2 hE
  refine pf_X1_64 C hW hZ k_x0 eh_11 dX1_clear_55 (fun _ _ hW km hZ => ?_)
  replace hkm := hkm.tr km
  replace k_x0 := km.at k_x0 (by decide)
  refine lv_dup_x1 C.1 C.2.1 dX1_clear_58 rfl rfl ?_
  obtain ⟨h_12, eh_12, hE⟩ := nm_e2 hE
  refine pf_X1_67 C hW hZ k_x0 eh_12 dX1_clear_59 (fun _ _ hW km hZ => ?_)
  replace hkm := hkm.tr km
  replace k_x0 := km.at k_x0 (by decide)
  obtain ⟨h_13, eh_13, hE⟩ := nm_e2 hE
  refine pf_X1_70 C hW hZ k_x0 eh_13 dX1_clear_62 (fun _ _ hW km hZ => ?_)
  replace hkm := hkm.tr km
  replace k_x0 := km.at k_x0 (by decide)
  refine lv_aload_n C.1 C.2.1 dX1_clear_65 rfl (lv_at hl 0 rfl) ?_
  refine lv_lconst (v := (0 : Int64)) C.1 C.2.1 dX1_clear_66 (by decide) ?_
  obtain ⟨h_14, eh_14, hE⟩ := nm_e2 hE
  refine pf_X1_73 C hW hZ k_x0 eh_14 dX1_clear_67 (fun _ _ hW km hZ => ?_)
  replace hkm := hkm.tr km
  replace k_x0 := km.at k_x0 (by decide)
  refine lv_aload_n C.1 C.2.1 dX1_clear_70 rfl (lv_at hl 0 rfl) ?_
  obtain ⟨r_15, er_15, hE⟩ := cl_e hE
  refine gf_X1_18 C hW k_x0 er_15 dX1_clear_71 (fun k_r_15 => ?_)
  refine lv_iconst (v := (0 : Int32)) C.1 C.2.1 dX1_clear_74 (by decide) ?_
  obtain ⟨o_16, eo_16, hE⟩ := cl_e hE
  refine x_kV (o := o_16) (z_runS (As := [.ref r_15, .int (0 : Int32)]) (rest := []) C (ct_J7_fill_53178 l X F k_r_15 eo_16) cw_X1_77 hW hZ rfl hl.1 (Nat.le_of_ble_eq_true rfl) rfl dX1_clear_75 ⟨Nat.le_of_ble_eq_true rfl, Nat.le_of_ble_eq_true rfl⟩ ⟨Nat.le_refl _, Nat.le_refl _⟩) hZ (fun _ _ hW km hZ => ?_)
  replace hkm := hkm.tr km
  replace k_x0 := km.at k_x0 (by decide)
  refine lv_aload_n C.1 C.2.1 dX1_clear_78 rfl (lv_at hl 0 rfl) ?_
  obtain ⟨r_17, er_17, hE⟩ := cl_e hE
  refine gf_X1_24 C hW k_x0 er_17 dX1_clear_79 (fun k_r_17 => ?_)
  refine lv_iconst (v := (0 : Int32)) C.1 C.2.1 dX1_clear_82 (by decide) ?_
  obtain ⟨o_18, eo_18, hE⟩ := cl_e hE
  refine x_kV (o := o_18) (z_runS (As := [.ref r_17, .int (0 : Int32)]) (rest := []) C (ct_J7_fill_53178 l X F k_r_17 eo_18) cw_X1_77 hW hZ rfl hl.1 (Nat.le_of_ble_eq_true rfl) rfl dX1_clear_83 ⟨Nat.le_of_ble_eq_true rfl, Nat.le_of_ble_eq_true rfl⟩ ⟨Nat.le_refl _, Nat.le_refl _⟩) hZ (fun _ _ hW km hZ => ?_)
  replace hkm := hkm.tr km
  replace k_x0 := km.at k_x0 (by decide)
  exact x_vret C rfl hW hZ hkm hE dX1_clear_86
section
variable {p : Program} {l : Launch} {e : Env} {R : Room} {s : State} {m : MethodId} {args : Array Value} {below : List Frame} {meth : Method} {c : Code} {H : Heap} {locs : List Loc} {cells slots : Nat} {Q : State → Prop}
variable {cc : ByteArray} {pc : Nat} {ls : Array Slot} {rest : List Value} {X : Ec} {h h1 : Hp} {nL : Nat} {rt : Option FieldType} {mn : String}
theorem gf_X1_61 {a : Nat} (C : Cx X p s m args meth c RX1 cc nL rt mn) (hW : Wx X h H) (ha : hK h a = 1) (hdg : decode cc pc = .ok (.getfield 61, 3)) (kk : W p l e R s m args below meth c H locs cells slots Q (F0 m (pc + 3) ls (.int (hI h a 0) :: rest))) : W p l e R s m args below meth c H locs cells slots Q (F0 m pc ls (.ref a :: rest)) :=
  y_geti C hW ha i_X1 (by decide) rfl (by decide) m_61 rfl hdg kk
theorem gf_X1_55 {a : Nat} (C : Cx X p s m args meth c RX1 cc nL rt mn) (hW : Wx X h H) (ha : hK h a = 1) (hdg : decode cc pc = .ok (.getfield 55, 3)) (kk : W p l e R s m args below meth c H locs cells slots Q (F0 m (pc + 3) ls (.int (hI h a 2) :: rest))) : W p l e R s m args below meth c H locs cells slots Q (F0 m pc ls (.ref a :: rest)) :=
  y_geti C hW ha i_X1 (by decide) rfl (by decide) m_72 rfl hdg kk
theorem gf_X1_27 {a r : Nat} (C : Cx X p s m args meth c RX1 cc nL rt mn) (hW : Wx X h H) (ha : hK h a = 1) (hr : hR h a 19 = some r) (hdg : decode cc pc = .ok (.getfield 27, 3)) (kk : hK h r = 17 → W p l e R s m args below meth c H locs cells slots Q (F0 m (pc + 3) ls (.ref r :: rest))) : W p l e R s m args below meth c H locs cells slots Q (F0 m pc ls (.ref a :: rest)) :=
  y_getr C hW ha i_X1 (by decide) rfl (by decide) m_135 rfl rfl hr hdg kk
theorem gf_X1_30 {a r : Nat} (C : Cx X p s m args meth c RX1 cc nL rt mn) (hW : Wx X h H) (ha : hK h a = 1) (hr : hR h a 20 = some r) (hdg : decode cc pc = .ok (.getfield 30, 3)) (kk : hK h r = 17 → W p l e R s m args below meth c H locs cells slots Q (F0 m (pc + 3) ls (.ref r :: rest))) : W p l e R s m args below meth c H locs cells slots Q (F0 m pc ls (.ref a :: rest)) :=
  y_getr C hW ha i_X1 (by decide) rfl (by decide) m_141 rfl rfl hr hdg kk
theorem gf_X1_58 {a : Nat} (C : Cx X p s m args meth c RX1 cc nL rt mn) (hW : Wx X h H) (ha : hK h a = 1) (hdg : decode cc pc = .ok (.getfield 58, 3)) (kk : W p l e R s m args below meth c H locs cells slots Q (F0 m (pc + 3) ls (.int (hI h a 1) :: rest))) : W p l e R s m args below meth c H locs cells slots Q (F0 m pc ls (.ref a :: rest)) :=
  y_geti C hW ha i_X1 (by decide) rfl (by decide) m_67 rfl hdg kk
end
theorem dX1_setBoard_0 : decode cX1_setBoard 0 = .ok (.aload_n 0, 1) := by decide +kernel
theorem dX1_setBoard_1 : decode cX1_setBoard 1 = .ok (.iload_n 1, 1) := by decide +kernel
theorem dX1_setBoard_2 : decode cX1_setBoard 2 = .ok (.putfield 61, 3) := by decide +kernel
theorem dX1_setBoard_5 : decode cX1_setBoard 5 = .ok (.aload_n 0, 1) := by decide +kernel
theorem dX1_setBoard_6 : decode cX1_setBoard 6 = .ok (.iload_n 2, 1) := by decide +kernel
theorem dX1_setBoard_7 : decode cX1_setBoard 7 = .ok (.putfield 58, 3) := by decide +kernel
theorem dX1_setBoard_10 : decode cX1_setBoard 10 = .ok (.aload_n 0, 1) := by decide +kernel
theorem dX1_setBoard_11 : decode cX1_setBoard 11 = .ok (.iconst 0, 1) := by decide +kernel
theorem dX1_setBoard_12 : decode cX1_setBoard 12 = .ok (.putfield 55, 3) := by decide +kernel
theorem dX1_setBoard_15 : decode cX1_setBoard 15 = .ok (.iconst 0, 1) := by decide +kernel
theorem dX1_setBoard_16 : decode cX1_setBoard 16 = .ok (.istore_n 3, 1) := by decide +kernel
theorem dX1_setBoard_17 : decode cX1_setBoard 17 = .ok (.iload_n 3, 1) := by decide +kernel
theorem dX1_setBoard_18 : decode cX1_setBoard 18 = .ok (.aload_n 0, 1) := by decide +kernel
theorem dX1_setBoard_19 : decode cX1_setBoard 19 = .ok (.getfield 58, 3) := by decide +kernel
theorem dX1_setBoard_22 : decode cX1_setBoard 22 = .ok (.if_icmp .ge 67, 3) := by decide +kernel
theorem dX1_setBoard_25 : decode cX1_setBoard 25 = .ok (.iconst 0, 1) := by decide +kernel
theorem dX1_setBoard_26 : decode cX1_setBoard 26 = .ok (.istore 4, 2) := by decide +kernel
theorem dX1_setBoard_28 : decode cX1_setBoard 28 = .ok (.iload 4, 2) := by decide +kernel
theorem dX1_setBoard_30 : decode cX1_setBoard 30 = .ok (.aload_n 0, 1) := by decide +kernel
theorem dX1_setBoard_31 : decode cX1_setBoard 31 = .ok (.getfield 61, 3) := by decide +kernel
theorem dX1_setBoard_34 : decode cX1_setBoard 34 = .ok (.if_icmp .ge 49, 3) := by decide +kernel
theorem dX1_setBoard_37 : decode cX1_setBoard 37 = .ok (.aload_n 0, 1) := by decide +kernel
theorem dX1_setBoard_38 : decode cX1_setBoard 38 = .ok (.getfield 55, 3) := by decide +kernel
theorem dX1_setBoard_41 : decode cX1_setBoard 41 = .ok (.bipush 64, 2) := by decide +kernel
theorem dX1_setBoard_43 : decode cX1_setBoard 43 = .ok (.if_icmp .ge 40, 3) := by decide +kernel
theorem dX1_setBoard_46 : decode cX1_setBoard 46 = .ok (.aload_n 0, 1) := by decide +kernel
theorem dX1_setBoard_47 : decode cX1_setBoard 47 = .ok (.getfield 27, 3) := by decide +kernel
theorem dX1_setBoard_50 : decode cX1_setBoard 50 = .ok (.aload_n 0, 1) := by decide +kernel
theorem dX1_setBoard_51 : decode cX1_setBoard 51 = .ok (.getfield 55, 3) := by decide +kernel
theorem dX1_setBoard_54 : decode cX1_setBoard 54 = .ok (.iload 4, 2) := by decide +kernel
theorem dX1_setBoard_56 : decode cX1_setBoard 56 = .ok (.iastore, 1) := by decide +kernel
theorem dX1_setBoard_57 : decode cX1_setBoard 57 = .ok (.aload_n 0, 1) := by decide +kernel
theorem dX1_setBoard_58 : decode cX1_setBoard 58 = .ok (.getfield 30, 3) := by decide +kernel
theorem dX1_setBoard_61 : decode cX1_setBoard 61 = .ok (.aload_n 0, 1) := by decide +kernel
theorem dX1_setBoard_62 : decode cX1_setBoard 62 = .ok (.getfield 55, 3) := by decide +kernel
theorem dX1_setBoard_65 : decode cX1_setBoard 65 = .ok (.iload_n 3, 1) := by decide +kernel
theorem dX1_setBoard_66 : decode cX1_setBoard 66 = .ok (.iastore, 1) := by decide +kernel
theorem dX1_setBoard_67 : decode cX1_setBoard 67 = .ok (.aload_n 0, 1) := by decide +kernel
theorem dX1_setBoard_68 : decode cX1_setBoard 68 = .ok (.dup, 1) := by decide +kernel
theorem dX1_setBoard_69 : decode cX1_setBoard 69 = .ok (.getfield 55, 3) := by decide +kernel
theorem dX1_setBoard_72 : decode cX1_setBoard 72 = .ok (.iconst 1, 1) := by decide +kernel
theorem dX1_setBoard_73 : decode cX1_setBoard 73 = .ok (.iadd, 1) := by decide +kernel
theorem dX1_setBoard_74 : decode cX1_setBoard 74 = .ok (.putfield 55, 3) := by decide +kernel
theorem dX1_setBoard_77 : decode cX1_setBoard 77 = .ok (.iinc 4 1, 3) := by decide +kernel
theorem dX1_setBoard_80 : decode cX1_setBoard 80 = .ok (.goto (-52), 3) := by decide +kernel
theorem dX1_setBoard_83 : decode cX1_setBoard 83 = .ok (.iinc 3 1, 3) := by decide +kernel
theorem dX1_setBoard_86 : decode cX1_setBoard 86 = .ok (.goto (-69), 3) := by decide +kernel
theorem dX1_setBoard_89 : decode cX1_setBoard 89 = .ok (.return_, 1) := by decide +kernel
set_option maxRecDepth 20000 in
theorem moX1_setBoard_83 {o : Hp} {k_17 : Hp → Nat → Int32 → Option (Hp)} {F : Nat} (mk_17 : ∀ (h : Hp) (x0 : Nat) (x3 : Int32), k_17 h x0 x3 = some o → Le h o) {h : Hp} {x0 : Nat} {x3 : Int32} (hE : sX1_setBoard_83 F k_17 h x0 x3 = some o) : Le h o := by
  obtain ⟨v_1, ev_1, hE⟩ := nm_e2 hE
  exact mk_17 _ _ _ hE
set_option maxRecDepth 20000 in
theorem moX1_setBoard_28 {o : Hp} {k_17 : Hp → Nat → Int32 → Option (Hp)} {F : Nat} (mk_17 : ∀ (h : Hp) (x0 : Nat) (x3 : Int32), k_17 h x0 x3 = some o → Le h o) : ∀ (f : Nat) {h : Hp} {x0 : Nat} {x3 : Int32} {x4 : Int32}, sX1_setBoard_28 F k_17 f h x0 x3 x4 = some o → Le h o := by
  intro f
  induction f with
  | zero =>
    intro h x0 x3 x4 hE
    rw [sX1_setBoard_28] at hE
    cases hE
  | succ f ih =>
    intro h x0 x3 x4 hE
    rw [sX1_setBoard_28] at hE
    have mk_28 : ∀ (h : Hp) (x0 : Nat) (x3 : Int32) (x4 : Int32), sX1_setBoard_28 F k_17 f h x0 x3 x4 = some o → Le h o := fun h x0 x3 x4 hE => ih hE
    rcases br_e hE with ⟨_, hE⟩ | ⟨_, hE⟩
    · exact moX1_setBoard_83 mk_17 hE
    · rcases br_e hE with ⟨_, hE⟩ | ⟨_, hE⟩
      · exact moX1_setBoard_83 mk_17 hE
      · obtain ⟨r_3, er_3, hE⟩ := cl_e hE
        obtain ⟨g_4, hE⟩ := gd_e hE
        obtain ⟨h_5, eh_5, hE⟩ := nm_e2 hE
        refine (le_I eh_5).tr ?_
        obtain ⟨r_6, er_6, hE⟩ := cl_e hE
        obtain ⟨g_7, hE⟩ := gd_e hE
        obtain ⟨h_8, eh_8, hE⟩ := nm_e2 hE
        refine (le_I eh_8).tr ?_
        obtain ⟨h_9, eh_9, hE⟩ := nm_e2 hE
        refine (le_I eh_9).tr ?_
        obtain ⟨v_10, ev_10, hE⟩ := nm_e2 hE
        exact mk_28 _ _ _ _ hE
set_option maxRecDepth 20000 in
theorem moX1_setBoard_17 {o : Hp} {F : Nat} : ∀ (f : Nat) {h : Hp} {x0 : Nat} {x3 : Int32}, sX1_setBoard_17 F f h x0 x3 = some o → Le h o := by
  intro f
  induction f with
  | zero =>
    intro h x0 x3 hE
    rw [sX1_setBoard_17] at hE
    cases hE
  | succ f ih =>
    intro h x0 x3 hE
    rw [sX1_setBoard_17] at hE
    have mk_17 : ∀ (h : Hp) (x0 : Nat) (x3 : Int32), sX1_setBoard_17 F f h x0 x3 = some o → Le h o := fun h x0 x3 hE => ih hE
    rcases br_e hE with ⟨_, hE⟩ | ⟨_, hE⟩
    · exact le_some1 hE
    · exact moX1_setBoard_28 mk_17 _ hE
set_option maxRecDepth 20000 in
theorem moX1_setBoard {o : Hp} {F : Nat} {h : Hp} {x0 : Nat} {x1 : Int32} {x2 : Int32} (hE : sX1_setBoard F h x0 x1 x2 = some o) : Le h o := by
  obtain ⟨h_1, eh_1, hE⟩ := nm_e2 hE
  refine (le_I eh_1).tr ?_
  obtain ⟨h_2, eh_2, hE⟩ := nm_e2 hE
  refine (le_I eh_2).tr ?_
  obtain ⟨h_3, eh_3, hE⟩ := nm_e2 hE
  refine (le_I eh_3).tr ?_
  exact moX1_setBoard_17 _ hE
set_option maxRecDepth 20000 in
theorem bX1_setBoard_83 {p : Program} {l : Launch} {e : Env} {s : State} {m : MethodId} {args : Array Value} {below : List Frame} {meth : Method} {c : Code} {X : Ec} {h0 : Hp} {o : Hp} {k_17 : Hp → Nat → Int32 → Option (Hp)} {F : Nat} (C : Cx X p s m args meth c RX1 cX1_setBoard 5 none "setBoard") (hk_17 : ∀ (h : Hp) (x0 : Nat) (x3 : Int32) (H : Heap) (locs : List Loc), hK h x0 = 1 → Km h0 h → Wx X h H → va_S (aA (eB X)) s.heap H locs → ∀ (ls : Array Slot), lv_has ls 5 [(0, .ref x0), (3, .int x3)] → k_17 h x0 x3 = some o → W p l e (rm 0 0) s m args below meth c H locs 0 0 (MQ below (QV X h0 o) args s 0 0 (aA (eB X))) (F0 m 17 ls [])) {h : Hp} {x0 : Nat} {x3 : Int32} {H : Heap} {locs : List Loc} (k_x0 : hK h x0 = 1) (hkm : Km h0 h) (hW : Wx X h H) (hZ : va_S (aA (eB X)) s.heap H locs) (ls : Array Slot) (hl : lv_has ls 5 [(0, .ref x0), (3, .int x3)]) (hE : sX1_setBoard_83 F k_17 h x0 x3 = some o) : W p l e (rm 0 0) s m args below meth c H locs 0 0 (MQ below (QV X h0 o) args s 0 0 (aA (eB X))) (F0 m 83 ls []) := by
  obtain ⟨v_1, ev_1, hE⟩ := nm_e2 hE
  refine lv_iinc (v := v_1) (lv' := [(3, .int v_1), (0, .ref x0)]) C.1 C.2.1 dX1_setBoard_83 hl (k := 1) rfl (by rw [ev_1]; rfl) (by decide) rfl (fun ls hl => ?_)
  refine lv_goto (tgt := 17) C.1 C.2.1 dX1_setBoard_86 (by decide) ?_
  exact hk_17 _ _ _ _ _ k_x0 hkm hW hZ _ (lv_sub hl [1, 0] rfl) hE
set_option maxRecDepth 20000 in
theorem bX1_setBoard_28 {p : Program} {l : Launch} {e : Env} {s : State} {m : MethodId} {args : Array Value} {below : List Frame} {meth : Method} {c : Code} {X : Ec} {h0 : Hp} {o : Hp} {k_17 : Hp → Nat → Int32 → Option (Hp)} {F : Nat} (C : Cx X p s m args meth c RX1 cX1_setBoard 5 none "setBoard") (hk_17 : ∀ (h : Hp) (x0 : Nat) (x3 : Int32) (H : Heap) (locs : List Loc), hK h x0 = 1 → Km h0 h → Wx X h H → va_S (aA (eB X)) s.heap H locs → ∀ (ls : Array Slot), lv_has ls 5 [(0, .ref x0), (3, .int x3)] → k_17 h x0 x3 = some o → W p l e (rm 0 0) s m args below meth c H locs 0 0 (MQ below (QV X h0 o) args s 0 0 (aA (eB X))) (F0 m 17 ls [])) : ∀ (f : Nat) {h : Hp} {x0 : Nat} {x3 : Int32} {x4 : Int32} {H : Heap} {locs : List Loc} (k_x0 : hK h x0 = 1), Km h0 h → Wx X h H → va_S (aA (eB X)) s.heap H locs → ∀ (ls : Array Slot), lv_has ls 5 [(0, .ref x0), (3, .int x3), (4, .int x4)] → sX1_setBoard_28 F k_17 f h x0 x3 x4 = some o → W p l e (rm 0 0) s m args below meth c H locs 0 0 (MQ below (QV X h0 o) args s 0 0 (aA (eB X))) (F0 m 28 ls []) := by
  intro f
  induction f with
  | zero =>
    intro h x0 x3 x4 H locs k_x0 hkm hW hZ ls hl hE
    rw [sX1_setBoard_28] at hE
    cases hE
  | succ f ih =>
    intro h x0 x3 x4 H locs k_x0 hkm hW hZ ls hl hE
    rw [sX1_setBoard_28] at hE
    have hk_28 : ∀ (h : Hp) (x0 : Nat) (x3 : Int32) (x4 : Int32) (H : Heap) (locs : List Loc), hK h x0 = 1 → Km h0 h → Wx X h H → va_S (aA (eB X)) s.heap H locs → ∀ (ls : Array Slot), lv_has ls 5 [(0, .ref x0), (3, .int x3), (4, .int x4)] → sX1_setBoard_28 F k_17 f h x0 x3 x4 = some o → W p l e (rm 0 0) s m args below meth c H locs 0 0 (MQ below (QV X h0 o) args s 0 0 (aA (eB X))) (F0 m 28 ls []) := fun h x0 x3 x4 H locs k_x0 a b c ls hl hE => ih k_x0 a b c ls hl hE
    refine lv_iload C.1 C.2.1 dX1_setBoard_28 (lv_at hl 2 rfl) ?_
    refine lv_aload_n C.1 C.2.1 dX1_setBoard_30 rfl (lv_at hl 0 rfl) ?_
    refine gf_X1_61 C hW k_x0 dX1_setBoard_31 ?_
    refine lv_icmp_ge (tgt := 83) C.1 C.2.1 dX1_setBoard_34 (by decide) (fun c_1 => ?_) (fun c_1 => ?_)
    · have hE := br_p hE c_1
      exact bX1_setBoard_83 C hk_17 k_x0 hkm hW hZ _ (lv_sub hl [0, 1] rfl) hE
    · have hE := br_n hE c_1
      refine lv_aload_n C.1 C.2.1 dX1_setBoard_37 rfl (lv_at hl 0 rfl) ?_
      refine gf_X1_55 C hW k_x0 dX1_setBoard_38 ?_
      refine lv_bipush (v := (64 : Int32)) C.1 C.2.1 dX1_setBoard_41 (by decide) ?_
      refine lv_icmp_ge (tgt := 83) C.1 C.2.1 dX1_setBoard_43 (by decide) (fun c_2 => ?_) (fun c_2 => ?_)
      · have hE := br_p hE c_2
        exact bX1_setBoard_83 C hk_17 k_x0 hkm hW hZ _ (lv_sub hl [0, 1] rfl) hE
      · have hE := br_n hE c_2
        refine lv_aload_n C.1 C.2.1 dX1_setBoard_46 rfl (lv_at hl 0 rfl) ?_
        obtain ⟨r_3, er_3, hE⟩ := cl_e hE
        refine gf_X1_27 C hW k_x0 er_3 dX1_setBoard_47 (fun k_r_3 => ?_)
        refine lv_aload_n C.1 C.2.1 dX1_setBoard_50 rfl (lv_at hl 0 rfl) ?_
        refine gf_X1_55 C hW k_x0 dX1_setBoard_51 ?_
        refine lv_iload C.1 C.2.1 dX1_setBoard_54 (lv_at hl 2 rfl) ?_
        obtain ⟨g_4, hE⟩ := gd_e hE
        obtain ⟨h_5, eh_5, hE⟩ := nm_e2 hE
        refine y_iast C hW hZ k_r_3 g_4 eh_5 dX1_setBoard_56 (fun _ _ hW km hZ => ?_)
        replace hkm := hkm.tr km
        replace k_x0 := km.at k_x0 (by decide)
        refine lv_aload_n C.1 C.2.1 dX1_setBoard_57 rfl (lv_at hl 0 rfl) ?_
        obtain ⟨r_6, er_6, hE⟩ := cl_e hE
        refine gf_X1_30 C hW k_x0 er_6 dX1_setBoard_58 (fun k_r_6 => ?_)
        refine lv_aload_n C.1 C.2.1 dX1_setBoard_61 rfl (lv_at hl 0 rfl) ?_
        refine gf_X1_55 C hW k_x0 dX1_setBoard_62 ?_
        refine lv_iload_n C.1 C.2.1 dX1_setBoard_65 rfl (lv_at hl 1 rfl) ?_
        obtain ⟨g_7, hE⟩ := gd_e hE
        obtain ⟨h_8, eh_8, hE⟩ := nm_e2 hE
        refine y_iast C hW hZ k_r_6 g_7 eh_8 dX1_setBoard_66 (fun _ _ hW km hZ => ?_)
        replace hkm := hkm.tr km
        replace k_x0 := km.at k_x0 (by decide)
        refine lv_aload_n C.1 C.2.1 dX1_setBoard_67 rfl (lv_at hl 0 rfl) ?_
        refine lv_dup C.1 C.2.1 dX1_setBoard_68 rfl ?_
        refine gf_X1_55 C hW k_x0 dX1_setBoard_69 ?_
        refine lv_iconst (v := (1 : Int32)) C.1 C.2.1 dX1_setBoard_72 (by decide) ?_
        refine lv_iadd C.1 C.2.1 dX1_setBoard_73 ?_
        obtain ⟨h_9, eh_9, hE⟩ := nm_e2 hE
        refine pf_X1_55 C hW hZ k_x0 eh_9 dX1_setBoard_74 (fun _ _ hW km hZ => ?_)
        replace hkm := hkm.tr km
        replace k_x0 := km.at k_x0 (by decide)
        obtain ⟨v_10, ev_10, hE⟩ := nm_e2 hE
        refine lv_iinc (v := v_10) (lv' := [(4, .int v_10), (0, .ref x0), (3, .int x3)]) C.1 C.2.1 dX1_setBoard_77 hl (k := 2) rfl (by rw [ev_10]; rfl) (by decide) rfl (fun ls hl => ?_)
        refine lv_goto (tgt := 28) C.1 C.2.1 dX1_setBoard_80 (by decide) ?_
        exact hk_28 _ _ _ _ _ _ k_x0 hkm hW hZ _ (lv_sub hl [1, 2, 0] rfl) hE
set_option maxRecDepth 20000 in
theorem bX1_setBoard_17 {p : Program} {l : Launch} {e : Env} {s : State} {m : MethodId} {args : Array Value} {below : List Frame} {meth : Method} {c : Code} {X : Ec} {h0 : Hp} {o : Hp} {F : Nat} (C : Cx X p s m args meth c RX1 cX1_setBoard 5 none "setBoard") : ∀ (f : Nat) {h : Hp} {x0 : Nat} {x3 : Int32} {H : Heap} {locs : List Loc} (k_x0 : hK h x0 = 1), Km h0 h → Wx X h H → va_S (aA (eB X)) s.heap H locs → ∀ (ls : Array Slot), lv_has ls 5 [(0, .ref x0), (3, .int x3)] → sX1_setBoard_17 F f h x0 x3 = some o → W p l e (rm 0 0) s m args below meth c H locs 0 0 (MQ below (QV X h0 o) args s 0 0 (aA (eB X))) (F0 m 17 ls []) := by
  intro f
  induction f with
  | zero =>
    intro h x0 x3 H locs k_x0 hkm hW hZ ls hl hE
    rw [sX1_setBoard_17] at hE
    cases hE
  | succ f ih =>
    intro h x0 x3 H locs k_x0 hkm hW hZ ls hl hE
    rw [sX1_setBoard_17] at hE
    have hk_17 : ∀ (h : Hp) (x0 : Nat) (x3 : Int32) (H : Heap) (locs : List Loc), hK h x0 = 1 → Km h0 h → Wx X h H → va_S (aA (eB X)) s.heap H locs → ∀ (ls : Array Slot), lv_has ls 5 [(0, .ref x0), (3, .int x3)] → sX1_setBoard_17 F f h x0 x3 = some o → W p l e (rm 0 0) s m args below meth c H locs 0 0 (MQ below (QV X h0 o) args s 0 0 (aA (eB X))) (F0 m 17 ls []) := fun h x0 x3 H locs k_x0 a b c ls hl hE => ih k_x0 a b c ls hl hE
    refine lv_iload_n C.1 C.2.1 dX1_setBoard_17 rfl (lv_at hl 1 rfl) ?_
    refine lv_aload_n C.1 C.2.1 dX1_setBoard_18 rfl (lv_at hl 0 rfl) ?_
    refine gf_X1_58 C hW k_x0 dX1_setBoard_19 ?_
    refine lv_icmp_ge (tgt := 89) C.1 C.2.1 dX1_setBoard_22 (by decide) (fun c_1 => ?_) (fun c_1 => ?_)
    · have hE := br_p hE c_1
      exact x_vret C rfl hW hZ hkm hE dX1_setBoard_89
    · have hE := br_n hE c_1
      refine lv_iconst (v := (0 : Int32)) C.1 C.2.1 dX1_setBoard_25 (by decide) ?_
      refine lv_istore (lv' := [(4, .int (0 : Int32)), (0, .ref x0), (3, .int x3)]) C.1 C.2.1 dX1_setBoard_26 hl (by decide) rfl (fun ls hl => ?_)
      exact bX1_setBoard_28 C hk_17 F k_x0 hkm hW hZ _ (lv_sub hl [1, 2, 0] rfl) hE
set_option maxRecDepth 20000 in
theorem ct_X1_setBoard (l : Launch) (X : Ec) (F : Nat) {h : Hp} {x0 : Nat} {x1 : Int32} {x2 : Int32} {o : Hp} (k_x0 : hK h x0 = 1) (hE : sX1_setBoard F h x0 x1 x2 = some o) : MetV l yX1_setBoard cX1_setBoard 5 none 0 0 X [.ref x0, .int x1, .int x2] h o := by
  refine x_met (by decide) (Nat.le_of_ble_eq_true rfl) ?_
  intro p e s m below meth c ls C hl hW hZ
  have hl : lv_has ls 5 [(0, .ref x0), (1, .int x1), (2, .int x2)] := hl
  have hkm : Km h h := Km.rf h
  refine lv_aload_n C.1 C.2.1 dX1_setBoard_0 rfl (lv_at hl 0 rfl) ?_
  refine lv_iload_n C.1 C.2.1 dX1_setBoard_1 rfl (lv_at hl 1 rfl) ?_
  obtain ⟨h_1, eh_1, hE⟩ := nm_e2 hE
  refine pf_X1_61 C hW hZ k_x0 eh_1 dX1_setBoard_2 (fun _ _ hW km hZ => ?_)
  replace hkm := hkm.tr km
  replace k_x0 := km.at k_x0 (by decide)
  refine lv_aload_n C.1 C.2.1 dX1_setBoard_5 rfl (lv_at hl 0 rfl) ?_
  refine lv_iload_n C.1 C.2.1 dX1_setBoard_6 rfl (lv_at hl 2 rfl) ?_
  obtain ⟨h_2, eh_2, hE⟩ := nm_e2 hE
  refine pf_X1_58 C hW hZ k_x0 eh_2 dX1_setBoard_7 (fun _ _ hW km hZ => ?_)
  replace hkm := hkm.tr km
  replace k_x0 := km.at k_x0 (by decide)
  refine lv_aload_n C.1 C.2.1 dX1_setBoard_10 rfl (lv_at hl 0 rfl) ?_
  refine lv_iconst (v := (0 : Int32)) C.1 C.2.1 dX1_setBoard_11 (by decide) ?_
  obtain ⟨h_3, eh_3, hE⟩ := nm_e2 hE
  refine pf_X1_55 C hW hZ k_x0 eh_3 dX1_setBoard_12 (fun _ _ hW km hZ => ?_)
  replace hkm := hkm.tr km
  replace k_x0 := km.at k_x0 (by decide)
  refine lv_iconst (v := (0 : Int32)) C.1 C.2.1 dX1_setBoard_15 (by decide) ?_
  refine lv_istore_n (lv' := [(3, .int (0 : Int32)), (0, .ref x0), (1, .int x1), (2, .int x2)]) C.1 C.2.1 dX1_setBoard_16 rfl hl (by decide) rfl (fun ls hl => ?_)
  exact bX1_setBoard_17 C F k_x0 hkm hW hZ _ (lv_sub hl [1, 0] rfl) hE
section
variable {p : Program} {l : Launch} {e : Env} {R : Room} {s : State} {m : MethodId} {args : Array Value} {below : List Frame} {meth : Method} {c : Code} {H : Heap} {locs : List Loc} {cells slots : Nat} {Q : State → Prop}
variable {cc : ByteArray} {pc : Nat} {ls : Array Slot} {rest : List Value} {X : Ec} {h h1 : Hp} {nL : Nat} {rt : Option FieldType} {mn : String}
theorem gf_X1_52 {a : Nat} (C : Cx X p s m args meth c RX1 cc nL rt mn) (hW : Wx X h H) (ha : hK h a = 1) (hdg : decode cc pc = .ok (.getfield 52, 3)) (kk : W p l e R s m args below meth c H locs cells slots Q (F0 m (pc + 3) ls (.int (hI h a 3) :: rest))) : W p l e R s m args below meth c H locs cells slots Q (F0 m pc ls (.ref a :: rest)) :=
  y_geti C hW ha i_X1 (by decide) rfl (by decide) m_79 rfl hdg kk
theorem gf_X1_9 {a r : Nat} (C : Cx X p s m args meth c RX1 cc nL rt mn) (hW : Wx X h H) (ha : hK h a = 1) (hr : hR h a 14 = some r) (hdg : decode cc pc = .ok (.getfield 9, 3)) (kk : hK h r = 17 → W p l e R s m args below meth c H locs cells slots Q (F0 m (pc + 3) ls (.ref r :: rest))) : W p l e R s m args below meth c H locs cells slots Q (F0 m pc ls (.ref a :: rest)) :=
  y_getr C hW ha i_X1 (by decide) rfl (by decide) m_119 rfl rfl hr hdg kk
end
theorem dX1_manOf_0 : decode cX1_manOf 0 = .ok (.iconst 0, 1) := by decide +kernel
theorem dX1_manOf_1 : decode cX1_manOf 1 = .ok (.istore_n 2, 1) := by decide +kernel
theorem dX1_manOf_2 : decode cX1_manOf 2 = .ok (.iload_n 2, 1) := by decide +kernel
theorem dX1_manOf_3 : decode cX1_manOf 3 = .ok (.aload_n 0, 1) := by decide +kernel
theorem dX1_manOf_4 : decode cX1_manOf 4 = .ok (.getfield 52, 3) := by decide +kernel
theorem dX1_manOf_7 : decode cX1_manOf 7 = .ok (.if_icmp .ge 21, 3) := by decide +kernel
theorem dX1_manOf_10 : decode cX1_manOf 10 = .ok (.aload_n 0, 1) := by decide +kernel
theorem dX1_manOf_11 : decode cX1_manOf 11 = .ok (.getfield 9, 3) := by decide +kernel
theorem dX1_manOf_14 : decode cX1_manOf 14 = .ok (.iload_n 2, 1) := by decide +kernel
theorem dX1_manOf_15 : decode cX1_manOf 15 = .ok (.iaload, 1) := by decide +kernel
theorem dX1_manOf_16 : decode cX1_manOf 16 = .ok (.iload_n 1, 1) := by decide +kernel
theorem dX1_manOf_17 : decode cX1_manOf 17 = .ok (.if_icmp .ne 5, 3) := by decide +kernel
theorem dX1_manOf_20 : decode cX1_manOf 20 = .ok (.iload_n 2, 1) := by decide +kernel
theorem dX1_manOf_21 : decode cX1_manOf 21 = .ok (.ireturn, 1) := by decide +kernel
theorem dX1_manOf_22 : decode cX1_manOf 22 = .ok (.iinc 2 1, 3) := by decide +kernel
theorem dX1_manOf_25 : decode cX1_manOf 25 = .ok (.goto (-23), 3) := by decide +kernel
theorem dX1_manOf_28 : decode cX1_manOf 28 = .ok (.iconst (-1), 1) := by decide +kernel
theorem dX1_manOf_29 : decode cX1_manOf 29 = .ok (.ireturn, 1) := by decide +kernel
set_option maxRecDepth 20000 in
theorem moX1_manOf_2 {o : Int32 × Hp} {F : Nat} : ∀ (f : Nat) {h : Hp} {x0 : Nat} {x1 : Int32} {x2 : Int32}, sX1_manOf_2 F f h x0 x1 x2 = some o → Le h o.2 := by
  intro f
  induction f with
  | zero =>
    intro h x0 x1 x2 hE
    rw [sX1_manOf_2] at hE
    cases hE
  | succ f ih =>
    intro h x0 x1 x2 hE
    rw [sX1_manOf_2] at hE
    have mk_2 : ∀ (h : Hp) (x0 : Nat) (x1 : Int32) (x2 : Int32), sX1_manOf_2 F f h x0 x1 x2 = some o → Le h o.2 := fun h x0 x1 x2 hE => ih hE
    rcases br_e hE with ⟨_, hE⟩ | ⟨_, hE⟩
    · exact le_some2 hE
    · obtain ⟨r_2, er_2, hE⟩ := cl_e hE
      obtain ⟨g_3, hE⟩ := gd_e hE
      rcases br_e hE with ⟨_, hE⟩ | ⟨_, hE⟩
      · exact le_some2 hE
      · obtain ⟨v_5, ev_5, hE⟩ := nm_e2 hE
        exact mk_2 _ _ _ _ hE
set_option maxRecDepth 20000 in
theorem moX1_manOf {o : Int32 × Hp} {F : Nat} {h : Hp} {x0 : Nat} {x1 : Int32} (hE : sX1_manOf F h x0 x1 = some o) : Le h o.2 := by
  exact moX1_manOf_2 _ hE
set_option maxRecDepth 20000 in
theorem bX1_manOf_2 {p : Program} {l : Launch} {e : Env} {s : State} {m : MethodId} {args : Array Value} {below : List Frame} {meth : Method} {c : Code} {X : Ec} {h0 : Hp} {o : Int32 × Hp} {F : Nat} (C : Cx X p s m args meth c RX1 cX1_manOf 3 (some .int) "manOf") : ∀ (f : Nat) {h : Hp} {x0 : Nat} {x1 : Int32} {x2 : Int32} {H : Heap} {locs : List Loc} (k_x0 : hK h x0 = 1), Km h0 h → Wx X h H → va_S (aA (eB X)) s.heap H locs → ∀ (ls : Array Slot), lv_has ls 3 [(0, .ref x0), (1, .int x1), (2, .int x2)] → sX1_manOf_2 F f h x0 x1 x2 = some o → W p l e (rm 0 0) s m args below meth c H locs 0 0 (MQ below (QI X h0 o.1 o.2) args s 0 0 (aA (eB X))) (F0 m 2 ls []) := by
  intro f
  induction f with
  | zero =>
    intro h x0 x1 x2 H locs k_x0 hkm hW hZ ls hl hE
    rw [sX1_manOf_2] at hE
    cases hE
  | succ f ih =>
    intro h x0 x1 x2 H locs k_x0 hkm hW hZ ls hl hE
    rw [sX1_manOf_2] at hE
    have hk_2 : ∀ (h : Hp) (x0 : Nat) (x1 : Int32) (x2 : Int32) (H : Heap) (locs : List Loc), hK h x0 = 1 → Km h0 h → Wx X h H → va_S (aA (eB X)) s.heap H locs → ∀ (ls : Array Slot), lv_has ls 3 [(0, .ref x0), (1, .int x1), (2, .int x2)] → sX1_manOf_2 F f h x0 x1 x2 = some o → W p l e (rm 0 0) s m args below meth c H locs 0 0 (MQ below (QI X h0 o.1 o.2) args s 0 0 (aA (eB X))) (F0 m 2 ls []) := fun h x0 x1 x2 H locs k_x0 a b c ls hl hE => ih k_x0 a b c ls hl hE
    refine lv_iload_n C.1 C.2.1 dX1_manOf_2 rfl (lv_at hl 2 rfl) ?_
    refine lv_aload_n C.1 C.2.1 dX1_manOf_3 rfl (lv_at hl 0 rfl) ?_
    refine gf_X1_52 C hW k_x0 dX1_manOf_4 ?_
    refine lv_icmp_ge (tgt := 28) C.1 C.2.1 dX1_manOf_7 (by decide) (fun c_1 => ?_) (fun c_1 => ?_)
    · have hE := br_p hE c_1
      refine lv_iconst (v := (-1 : Int32)) C.1 C.2.1 dX1_manOf_28 (by decide) ?_
      exact x_iret C rfl rfl hW hZ hkm hE dX1_manOf_29
    · have hE := br_n hE c_1
      refine lv_aload_n C.1 C.2.1 dX1_manOf_10 rfl (lv_at hl 0 rfl) ?_
      obtain ⟨r_2, er_2, hE⟩ := cl_e hE
      refine gf_X1_9 C hW k_x0 er_2 dX1_manOf_11 (fun k_r_2 => ?_)
      refine lv_iload_n C.1 C.2.1 dX1_manOf_14 rfl (lv_at hl 2 rfl) ?_
      obtain ⟨g_3, hE⟩ := gd_e hE
      refine y_iald C hW k_r_2 g_3 dX1_manOf_15 ?_
      refine lv_iload_n C.1 C.2.1 dX1_manOf_16 rfl (lv_at hl 1 rfl) ?_
      refine lv_icmp_ne (tgt := 22) C.1 C.2.1 dX1_manOf_17 (by decide) (fun c_4 => ?_) (fun c_4 => ?_)
      · have hE := br_n hE c_4
        obtain ⟨v_5, ev_5, hE⟩ := nm_e2 hE
        refine lv_iinc (v := v_5) (lv' := [(2, .int v_5), (0, .ref x0), (1, .int x1)]) C.1 C.2.1 dX1_manOf_22 hl (k := 2) rfl (by rw [ev_5]; rfl) (by decide) rfl (fun ls hl => ?_)
        refine lv_goto (tgt := 2) C.1 C.2.1 dX1_manOf_25 (by decide) ?_
        exact hk_2 _ _ _ _ _ _ k_x0 hkm hW hZ _ (lv_sub hl [1, 2, 0] rfl) hE
      · have hE := br_p hE c_4
        refine lv_iload_n C.1 C.2.1 dX1_manOf_20 rfl (lv_at hl 2 rfl) ?_
        exact x_iret C rfl rfl hW hZ hkm hE dX1_manOf_21
set_option maxRecDepth 20000 in
theorem ct_X1_manOf (l : Launch) (X : Ec) (F : Nat) {h : Hp} {x0 : Nat} {x1 : Int32} {o : Int32 × Hp} (k_x0 : hK h x0 = 1) (hE : sX1_manOf F h x0 x1 = some o) : MetI l yX1_manOf cX1_manOf 3 (some .int) 0 0 X [.ref x0, .int x1] h o := by
  refine x_met (by decide) (Nat.le_of_ble_eq_true rfl) ?_
  intro p e s m below meth c ls C hl hW hZ
  have hl : lv_has ls 3 [(0, .ref x0), (1, .int x1)] := hl
  have hkm : Km h h := Km.rf h
  refine lv_iconst (v := (0 : Int32)) C.1 C.2.1 dX1_manOf_0 (by decide) ?_
  refine lv_istore_n (lv' := [(2, .int (0 : Int32)), (0, .ref x0), (1, .int x1)]) C.1 C.2.1 dX1_manOf_1 rfl hl (by decide) rfl (fun ls hl => ?_)
  exact bX1_manOf_2 C F k_x0 hkm hW hZ _ (lv_sub hl [1, 2, 0] rfl) hE
theorem dX1_becomesOthers_0 : decode cX1_becomesOthers 0 = .ok (.iload_n 1, 1) := by decide +kernel
theorem dX1_becomesOthers_1 : decode cX1_becomesOthers 1 = .ok (.ifCond .lt 22, 3) := by decide +kernel
theorem dX1_becomesOthers_4 : decode cX1_becomesOthers 4 = .ok (.iload_n 1, 1) := by decide +kernel
theorem dX1_becomesOthers_5 : decode cX1_becomesOthers 5 = .ok (.bipush 12, 2) := by decide +kernel
theorem dX1_becomesOthers_7 : decode cX1_becomesOthers 7 = .ok (.if_icmp .ge 16, 3) := by decide +kernel
theorem dX1_becomesOthers_10 : decode cX1_becomesOthers 10 = .ok (.aload_n 0, 1) := by decide +kernel
theorem dX1_becomesOthers_11 : decode cX1_becomesOthers 11 = .ok (.getfield 24, 3) := by decide +kernel
theorem dX1_becomesOthers_14 : decode cX1_becomesOthers 14 = .ok (.iload_n 1, 1) := by decide +kernel
theorem dX1_becomesOthers_15 : decode cX1_becomesOthers 15 = .ok (.iaload, 1) := by decide +kernel
theorem dX1_becomesOthers_16 : decode cX1_becomesOthers 16 = .ok (.ifCond .le 7, 3) := by decide +kernel
theorem dX1_becomesOthers_19 : decode cX1_becomesOthers 19 = .ok (.iconst 1, 1) := by decide +kernel
theorem dX1_becomesOthers_20 : decode cX1_becomesOthers 20 = .ok (.goto 4, 3) := by decide +kernel
theorem dX1_becomesOthers_23 : decode cX1_becomesOthers 23 = .ok (.iconst 0, 1) := by decide +kernel
theorem dX1_becomesOthers_24 : decode cX1_becomesOthers 24 = .ok (.ireturn, 1) := by decide +kernel
set_option maxRecDepth 20000 in
theorem moX1_becomesOthers_24 {o : Int32 × Hp} {h : Hp} {t0 : Int32} (hE : sX1_becomesOthers_24 h  t0 = some o) : Le h o.2 := by
  obtain ⟨g_1, hE⟩ := gd_e hE
  exact le_some2 hE
set_option maxRecDepth 20000 in
theorem moX1_becomesOthers_23 {o : Int32 × Hp} {h : Hp} (hE : sX1_becomesOthers_23 h  = some o) : Le h o.2 := by
  exact moX1_becomesOthers_24 hE
set_option maxRecDepth 20000 in
theorem moX1_becomesOthers {o : Int32 × Hp} {h : Hp} {x0 : Nat} {x1 : Int32} (hE : sX1_becomesOthers h x0 x1 = some o) : Le h o.2 := by
  rcases br_e hE with ⟨_, hE⟩ | ⟨_, hE⟩
  · exact moX1_becomesOthers_23 hE
  · rcases br_e hE with ⟨_, hE⟩ | ⟨_, hE⟩
    · exact moX1_becomesOthers_23 hE
    · obtain ⟨r_3, er_3, hE⟩ := cl_e hE
      obtain ⟨g_4, hE⟩ := gd_e hE
      rcases br_e hE with ⟨_, hE⟩ | ⟨_, hE⟩
      · exact moX1_becomesOthers_23 hE
      · exact moX1_becomesOthers_24 hE
set_option maxRecDepth 20000 in
theorem bX1_becomesOthers_24 {p : Program} {l : Launch} {e : Env} {s : State} {m : MethodId} {args : Array Value} {below : List Frame} {meth : Method} {c : Code} {X : Ec} {h0 : Hp} {o : Int32 × Hp} (C : Cx X p s m args meth c RX1 cX1_becomesOthers 2 (some .boolean) "becomesOthers") {h : Hp} {t0 : Int32} {H : Heap} {locs : List Loc} (hkm : Km h0 h) (hW : Wx X h H) (hZ : va_S (aA (eB X)) s.heap H locs) (ls : Array Slot) (hl : lv_has ls 2 []) (hE : sX1_becomesOthers_24 h  t0 = some o) : W p l e (rm 0 0) s m args below meth c H locs 0 0 (MQ below (QI X h0 o.1 o.2) args s 0 0 (aA (eB X))) (F0 m 24 ls [.int t0]) := by
  obtain ⟨g_1, hE⟩ := gd_e hE
  exact x_iret C rfl (narB g_1) hW hZ hkm hE dX1_becomesOthers_24
set_option maxRecDepth 20000 in
theorem bX1_becomesOthers_23 {p : Program} {l : Launch} {e : Env} {s : State} {m : MethodId} {args : Array Value} {below : List Frame} {meth : Method} {c : Code} {X : Ec} {h0 : Hp} {o : Int32 × Hp} (C : Cx X p s m args meth c RX1 cX1_becomesOthers 2 (some .boolean) "becomesOthers") {h : Hp} {H : Heap} {locs : List Loc} (hkm : Km h0 h) (hW : Wx X h H) (hZ : va_S (aA (eB X)) s.heap H locs) (ls : Array Slot) (hl : lv_has ls 2 []) (hE : sX1_becomesOthers_23 h  = some o) : W p l e (rm 0 0) s m args below meth c H locs 0 0 (MQ below (QI X h0 o.1 o.2) args s 0 0 (aA (eB X))) (F0 m 23 ls []) := by
  refine lv_iconst (v := (0 : Int32)) C.1 C.2.1 dX1_becomesOthers_23 (by decide) ?_
  exact bX1_becomesOthers_24 C hkm hW hZ _ (lv_sub hl [] rfl) hE
set_option maxRecDepth 20000 in
theorem ct_X1_becomesOthers (l : Launch) (X : Ec) {h : Hp} {x0 : Nat} {x1 : Int32} {o : Int32 × Hp} (k_x0 : hK h x0 = 1) (hE : sX1_becomesOthers h x0 x1 = some o) : MetI l yX1_becomesOthers cX1_becomesOthers 2 (some .boolean) 0 0 X [.ref x0, .int x1] h o := by
  refine x_met (by decide) (Nat.le_of_ble_eq_true rfl) ?_
  intro p e s m below meth c ls C hl hW hZ
  have hl : lv_has ls 2 [(0, .ref x0), (1, .int x1)] := hl
  have hkm : Km h h := Km.rf h
  refine lv_iload_n C.1 C.2.1 dX1_becomesOthers_0 rfl (lv_at hl 1 rfl) ?_
  refine lv_if_lt (tgt := 23) C.1 C.2.1 dX1_becomesOthers_1 (by decide) (fun c_1 => ?_) (fun c_1 => ?_)
  · have hE := br_p hE c_1
    exact bX1_becomesOthers_23 C hkm hW hZ _ (lv_sub hl [] rfl) hE
  · have hE := br_n hE c_1
    refine lv_iload_n C.1 C.2.1 dX1_becomesOthers_4 rfl (lv_at hl 1 rfl) ?_
    refine lv_bipush (v := (12 : Int32)) C.1 C.2.1 dX1_becomesOthers_5 (by decide) ?_
    refine lv_icmp_ge (tgt := 23) C.1 C.2.1 dX1_becomesOthers_7 (by decide) (fun c_2 => ?_) (fun c_2 => ?_)
    · have hE := br_p hE c_2
      exact bX1_becomesOthers_23 C hkm hW hZ _ (lv_sub hl [] rfl) hE
    · have hE := br_n hE c_2
      refine lv_aload_n C.1 C.2.1 dX1_becomesOthers_10 rfl (lv_at hl 0 rfl) ?_
      obtain ⟨r_3, er_3, hE⟩ := cl_e hE
      refine gf_X1_24 C hW k_x0 er_3 dX1_becomesOthers_11 (fun k_r_3 => ?_)
      refine lv_iload_n C.1 C.2.1 dX1_becomesOthers_14 rfl (lv_at hl 1 rfl) ?_
      obtain ⟨g_4, hE⟩ := gd_e hE
      refine y_iald C hW k_r_3 g_4 dX1_becomesOthers_15 ?_
      refine lv_if_le (tgt := 23) C.1 C.2.1 dX1_becomesOthers_16 (by decide) (fun c_5 => ?_) (fun c_5 => ?_)
      · have hE := br_p hE c_5
        exact bX1_becomesOthers_23 C hkm hW hZ _ (lv_sub hl [] rfl) hE
      · have hE := br_n hE c_5
        refine lv_iconst (v := (1 : Int32)) C.1 C.2.1 dX1_becomesOthers_19 (by decide) ?_
        refine lv_goto (tgt := 24) C.1 C.2.1 dX1_becomesOthers_20 (by decide) ?_
        exact bX1_becomesOthers_24 C hkm hW hZ _ (lv_sub hl [] rfl) hE
set_option maxRecDepth 100000 in
theorem m_4 : Cond.initialized RX1 ∈ W0 := w0_in (List.mem_append_right _ (List.mem_of_getElem? (i := 4) rfl)) rfl
set_option maxRecDepth 100000 in
theorem m_704 : Cond.instanceMethod yX1_manOf ∈ W0 := w0_in (List.mem_append_right _ (List.mem_of_getElem? (i := 704) rfl)) rfl
set_option maxRecDepth 100000 in
theorem m_705 : Cond.selects RX1 yX1_manOf yX1_manOf ∈ W0 := w0_in (List.mem_append_right _ (List.mem_of_getElem? (i := 705) rfl)) rfl
set_option maxRecDepth 100000 in
theorem m_706 : Cond.code yX1_manOf cX1_manOf 3 (some .int) ∈ W0 := w0_in (List.mem_append_right _ (List.mem_of_getElem? (i := 706) rfl)) rfl
set_option maxRecDepth 100000 in
theorem m_960 : Cond.methodLink RX1 87 yX1_manOf ∈ W0 := w0_in (List.mem_append_right _ (List.mem_of_getElem? (i := 960) rfl)) rfl
theorem cw_X1_87 : cwd RX1 87 yX1_manOf cX1_manOf 3 (some .int) false 1 := ⟨m_706, m_960, m_4, ⟨m_704, m_705⟩, by decide, by decide, by decide +kernel⟩
theorem dX1_codeOf_0 : decode cX1_codeOf 0 = .ok (.iload_n 1, 1) := by decide +kernel
theorem dX1_codeOf_1 : decode cX1_codeOf 1 = .ok (.bipush 65, 2) := by decide +kernel
theorem dX1_codeOf_3 : decode cX1_codeOf 3 = .ok (.if_icmp .lt 13, 3) := by decide +kernel
theorem dX1_codeOf_6 : decode cX1_codeOf 6 = .ok (.iload_n 1, 1) := by decide +kernel
theorem dX1_codeOf_7 : decode cX1_codeOf 7 = .ok (.bipush 90, 2) := by decide +kernel
theorem dX1_codeOf_9 : decode cX1_codeOf 9 = .ok (.if_icmp .gt 7, 3) := by decide +kernel
theorem dX1_codeOf_12 : decode cX1_codeOf 12 = .ok (.iconst 1, 1) := by decide +kernel
theorem dX1_codeOf_13 : decode cX1_codeOf 13 = .ok (.goto 4, 3) := by decide +kernel
theorem dX1_codeOf_16 : decode cX1_codeOf 16 = .ok (.iconst 0, 1) := by decide +kernel
theorem dX1_codeOf_17 : decode cX1_codeOf 17 = .ok (.istore_n 2, 1) := by decide +kernel
theorem dX1_codeOf_18 : decode cX1_codeOf 18 = .ok (.aload_n 0, 1) := by decide +kernel
theorem dX1_codeOf_19 : decode cX1_codeOf 19 = .ok (.iload_n 2, 1) := by decide +kernel
theorem dX1_codeOf_20 : decode cX1_codeOf 20 = .ok (.ifCond .eq 10, 3) := by decide +kernel
theorem dX1_codeOf_23 : decode cX1_codeOf 23 = .ok (.iload_n 1, 1) := by decide +kernel
theorem dX1_codeOf_24 : decode cX1_codeOf 24 = .ok (.bipush 32, 2) := by decide +kernel
theorem dX1_codeOf_26 : decode cX1_codeOf 26 = .ok (.iadd, 1) := by decide +kernel
theorem dX1_codeOf_27 : decode cX1_codeOf 27 = .ok (.goto 4, 3) := by decide +kernel
theorem dX1_codeOf_30 : decode cX1_codeOf 30 = .ok (.iload_n 1, 1) := by decide +kernel
theorem dX1_codeOf_31 : decode cX1_codeOf 31 = .ok (.invokevirtual 87, 3) := by decide +kernel
theorem dX1_codeOf_34 : decode cX1_codeOf 34 = .ok (.istore_n 3, 1) := by decide +kernel
theorem dX1_codeOf_35 : decode cX1_codeOf 35 = .ok (.iload_n 3, 1) := by decide +kernel
theorem dX1_codeOf_36 : decode cX1_codeOf 36 = .ok (.iconst (-1), 1) := by decide +kernel
theorem dX1_codeOf_37 : decode cX1_codeOf 37 = .ok (.if_icmp .ne 7, 3) := by decide +kernel
theorem dX1_codeOf_40 : decode cX1_codeOf 40 = .ok (.iconst (-1), 1) := by decide +kernel
theorem dX1_codeOf_41 : decode cX1_codeOf 41 = .ok (.goto 16, 3) := by decide +kernel
theorem dX1_codeOf_44 : decode cX1_codeOf 44 = .ok (.iconst 2, 1) := by decide +kernel
theorem dX1_codeOf_45 : decode cX1_codeOf 45 = .ok (.iload_n 3, 1) := by decide +kernel
theorem dX1_codeOf_46 : decode cX1_codeOf 46 = .ok (.imul, 1) := by decide +kernel
theorem dX1_codeOf_47 : decode cX1_codeOf 47 = .ok (.iload_n 2, 1) := by decide +kernel
theorem dX1_codeOf_48 : decode cX1_codeOf 48 = .ok (.ifCond .eq 7, 3) := by decide +kernel
theorem dX1_codeOf_51 : decode cX1_codeOf 51 = .ok (.iconst 0, 1) := by decide +kernel
theorem dX1_codeOf_52 : decode cX1_codeOf 52 = .ok (.goto 4, 3) := by decide +kernel
theorem dX1_codeOf_55 : decode cX1_codeOf 55 = .ok (.iconst 1, 1) := by decide +kernel
theorem dX1_codeOf_56 : decode cX1_codeOf 56 = .ok (.iadd, 1) := by decide +kernel
theorem dX1_codeOf_57 : decode cX1_codeOf 57 = .ok (.ireturn, 1) := by decide +kernel
set_option maxRecDepth 20000 in
theorem moX1_codeOf_57 {o : Int32 × Hp} {F : Nat} {h : Hp} {t0 : Int32} (hE : sX1_codeOf_57 F h  t0 = some o) : Le h o.2 := by
  exact le_some2 hE
set_option maxRecDepth 20000 in
theorem moX1_codeOf_56 {o : Int32 × Hp} {F : Nat} {h : Hp} {t0 : Int32} {t1 : Int32} (hE : sX1_codeOf_56 F h  t0 t1 = some o) : Le h o.2 := by
  exact moX1_codeOf_57 hE
set_option maxRecDepth 20000 in
theorem moX1_codeOf_31 {o : Int32 × Hp} {F : Nat} {h : Hp} {x2 : Int32} {t0 : Int32} {t1 : Nat} (hE : sX1_codeOf_31 F h x2 t0 t1 = some o) : Le h o.2 := by
  obtain ⟨o_1, eo_1, hE⟩ := cl_e hE
  refine (moX1_manOf eo_1).tr ?_
  rcases br_e hE with ⟨_, hE⟩ | ⟨_, hE⟩
  · exact moX1_codeOf_57 hE
  · rcases br_e hE with ⟨_, hE⟩ | ⟨_, hE⟩
    · exact moX1_codeOf_56 hE
    · exact moX1_codeOf_56 hE
set_option maxRecDepth 20000 in
theorem moX1_codeOf_17 {o : Int32 × Hp} {F : Nat} {h : Hp} {x0 : Nat} {x1 : Int32} {t0 : Int32} (hE : sX1_codeOf_17 F h x0 x1 t0 = some o) : Le h o.2 := by
  rcases br_e hE with ⟨_, hE⟩ | ⟨_, hE⟩
  · exact moX1_codeOf_31 hE
  · exact moX1_codeOf_31 hE
set_option maxRecDepth 20000 in
theorem moX1_codeOf_16 {o : Int32 × Hp} {F : Nat} {h : Hp} {x0 : Nat} {x1 : Int32} (hE : sX1_codeOf_16 F h x0 x1 = some o) : Le h o.2 := by
  exact moX1_codeOf_17 hE
set_option maxRecDepth 20000 in
theorem moX1_codeOf {o : Int32 × Hp} {F : Nat} {h : Hp} {x0 : Nat} {x1 : Int32} (hE : sX1_codeOf F h x0 x1 = some o) : Le h o.2 := by
  rcases br_e hE with ⟨_, hE⟩ | ⟨_, hE⟩
  · exact moX1_codeOf_16 hE
  · rcases br_e hE with ⟨_, hE⟩ | ⟨_, hE⟩
    · exact moX1_codeOf_16 hE
    · exact moX1_codeOf_17 hE
set_option maxRecDepth 20000 in
theorem bX1_codeOf_57 {p : Program} {l : Launch} {e : Env} {s : State} {m : MethodId} {args : Array Value} {below : List Frame} {meth : Method} {c : Code} {X : Ec} {h0 : Hp} {o : Int32 × Hp} {F : Nat} (C : Cx X p s m args meth c RX1 cX1_codeOf 4 (some .int) "codeOf") {h : Hp} {t0 : Int32} {H : Heap} {locs : List Loc} (hkm : Km h0 h) (hW : Wx X h H) (hZ : va_S (aA (eB X)) s.heap H locs) (ls : Array Slot) (hl : lv_has ls 4 []) (hE : sX1_codeOf_57 F h  t0 = some o) : W p l e (rm 1 22) s m args below meth c H locs 0 0 (MQ below (QI X h0 o.1 o.2) args s 0 0 (aA (eB X))) (F0 m 57 ls [.int t0]) := by
  exact x_iret C rfl rfl hW hZ hkm hE dX1_codeOf_57
set_option maxRecDepth 20000 in
theorem bX1_codeOf_56 {p : Program} {l : Launch} {e : Env} {s : State} {m : MethodId} {args : Array Value} {below : List Frame} {meth : Method} {c : Code} {X : Ec} {h0 : Hp} {o : Int32 × Hp} {F : Nat} (C : Cx X p s m args meth c RX1 cX1_codeOf 4 (some .int) "codeOf") {h : Hp} {t0 : Int32} {t1 : Int32} {H : Heap} {locs : List Loc} (hkm : Km h0 h) (hW : Wx X h H) (hZ : va_S (aA (eB X)) s.heap H locs) (ls : Array Slot) (hl : lv_has ls 4 []) (hE : sX1_codeOf_56 F h  t0 t1 = some o) : W p l e (rm 1 22) s m args below meth c H locs 0 0 (MQ below (QI X h0 o.1 o.2) args s 0 0 (aA (eB X))) (F0 m 56 ls [.int t0, .int t1]) := by
  refine lv_iadd C.1 C.2.1 dX1_codeOf_56 ?_
  exact bX1_codeOf_57 C hkm hW hZ _ (lv_sub hl [] rfl) hE
set_option maxRecDepth 20000 in
theorem bX1_codeOf_31 {p : Program} {l : Launch} {e : Env} {s : State} {m : MethodId} {args : Array Value} {below : List Frame} {meth : Method} {c : Code} {X : Ec} {h0 : Hp} {o : Int32 × Hp} {F : Nat} (C : Cx X p s m args meth c RX1 cX1_codeOf 4 (some .int) "codeOf") {h : Hp} {x2 : Int32} {t0 : Int32} {t1 : Nat} {H : Heap} {locs : List Loc} (k_t1 : hK h t1 = 1) (hkm : Km h0 h) (hW : Wx X h H) (hZ : va_S (aA (eB X)) s.heap H locs) (ls : Array Slot) (hl : lv_has ls 4 [(2, .int x2)]) (hE : sX1_codeOf_31 F h x2 t0 t1 = some o) : W p l e (rm 1 22) s m args below meth c H locs 0 0 (MQ below (QI X h0 o.1 o.2) args s 0 0 (aA (eB X))) (F0 m 31 ls [.int t0, .ref t1]) := by
  obtain ⟨o_1, eo_1, hE⟩ := cl_e hE
  refine x_kI (o := o_1) (z_runV (As := [.int t0]) (rest := []) C (ct_X1_manOf l X F k_t1 eo_1) cw_X1_87 hW hZ k_t1 (by decide) rfl rfl rfl hl.1 (Nat.le_of_ble_eq_true rfl) rfl dX1_codeOf_31 ⟨Nat.le_of_ble_eq_true rfl, Nat.le_of_ble_eq_true rfl⟩ ⟨Nat.le_refl _, Nat.le_refl _⟩) hZ (fun _ _ hW km hZ => ?_)
  replace hkm := hkm.tr km
  refine lv_istore_n (lv' := [(3, .int o_1.1), (2, .int x2)]) C.1 C.2.1 dX1_codeOf_34 rfl hl (by decide) rfl (fun ls hl => ?_)
  refine lv_iload_n C.1 C.2.1 dX1_codeOf_35 rfl (lv_at hl 0 rfl) ?_
  refine lv_iconst (v := (-1 : Int32)) C.1 C.2.1 dX1_codeOf_36 (by decide) ?_
  refine lv_icmp_ne (tgt := 44) C.1 C.2.1 dX1_codeOf_37 (by decide) (fun c_2 => ?_) (fun c_2 => ?_)
  · have hE := br_n hE c_2
    refine lv_iconst (v := (2 : Int32)) C.1 C.2.1 dX1_codeOf_44 (by decide) ?_
    refine lv_iload_n C.1 C.2.1 dX1_codeOf_45 rfl (lv_at hl 0 rfl) ?_
    refine lv_imul C.1 C.2.1 dX1_codeOf_46 ?_
    refine lv_iload_n C.1 C.2.1 dX1_codeOf_47 rfl (lv_at hl 1 rfl) ?_
    refine lv_if_eq (tgt := 55) C.1 C.2.1 dX1_codeOf_48 (by decide) (fun c_3 => ?_) (fun c_3 => ?_)
    · have hE := br_p hE c_3
      refine lv_iconst (v := (1 : Int32)) C.1 C.2.1 dX1_codeOf_55 (by decide) ?_
      exact bX1_codeOf_56 C hkm hW hZ _ (lv_sub hl [] rfl) hE
    · have hE := br_n hE c_3
      refine lv_iconst (v := (0 : Int32)) C.1 C.2.1 dX1_codeOf_51 (by decide) ?_
      refine lv_goto (tgt := 56) C.1 C.2.1 dX1_codeOf_52 (by decide) ?_
      exact bX1_codeOf_56 C hkm hW hZ _ (lv_sub hl [] rfl) hE
  · have hE := br_p hE c_2
    refine lv_iconst (v := (-1 : Int32)) C.1 C.2.1 dX1_codeOf_40 (by decide) ?_
    refine lv_goto (tgt := 57) C.1 C.2.1 dX1_codeOf_41 (by decide) ?_
    exact bX1_codeOf_57 C hkm hW hZ _ (lv_sub hl [] rfl) hE
set_option maxRecDepth 20000 in
theorem bX1_codeOf_17 {p : Program} {l : Launch} {e : Env} {s : State} {m : MethodId} {args : Array Value} {below : List Frame} {meth : Method} {c : Code} {X : Ec} {h0 : Hp} {o : Int32 × Hp} {F : Nat} (C : Cx X p s m args meth c RX1 cX1_codeOf 4 (some .int) "codeOf") {h : Hp} {x0 : Nat} {x1 : Int32} {t0 : Int32} {H : Heap} {locs : List Loc} (k_x0 : hK h x0 = 1) (hkm : Km h0 h) (hW : Wx X h H) (hZ : va_S (aA (eB X)) s.heap H locs) (ls : Array Slot) (hl : lv_has ls 4 [(0, .ref x0), (1, .int x1)]) (hE : sX1_codeOf_17 F h x0 x1 t0 = some o) : W p l e (rm 1 22) s m args below meth c H locs 0 0 (MQ below (QI X h0 o.1 o.2) args s 0 0 (aA (eB X))) (F0 m 17 ls [.int t0]) := by
  refine lv_istore_n (lv' := [(2, .int t0), (0, .ref x0), (1, .int x1)]) C.1 C.2.1 dX1_codeOf_17 rfl hl (by decide) rfl (fun ls hl => ?_)
  refine lv_aload_n C.1 C.2.1 dX1_codeOf_18 rfl (lv_at hl 1 rfl) ?_
  refine lv_iload_n C.1 C.2.1 dX1_codeOf_19 rfl (lv_at hl 0 rfl) ?_
  refine lv_if_eq (tgt := 30) C.1 C.2.1 dX1_codeOf_20 (by decide) (fun c_1 => ?_) (fun c_1 => ?_)
  · have hE := br_p hE c_1
    refine lv_iload_n C.1 C.2.1 dX1_codeOf_30 rfl (lv_at hl 2 rfl) ?_
    exact bX1_codeOf_31 C k_x0 hkm hW hZ _ (lv_sub hl [0] rfl) hE
  · have hE := br_n hE c_1
    refine lv_iload_n C.1 C.2.1 dX1_codeOf_23 rfl (lv_at hl 2 rfl) ?_
    refine lv_bipush (v := (32 : Int32)) C.1 C.2.1 dX1_codeOf_24 (by decide) ?_
    refine lv_iadd C.1 C.2.1 dX1_codeOf_26 ?_
    refine lv_goto (tgt := 31) C.1 C.2.1 dX1_codeOf_27 (by decide) ?_
    exact bX1_codeOf_31 C k_x0 hkm hW hZ _ (lv_sub hl [0] rfl) hE
set_option maxRecDepth 20000 in
theorem bX1_codeOf_16 {p : Program} {l : Launch} {e : Env} {s : State} {m : MethodId} {args : Array Value} {below : List Frame} {meth : Method} {c : Code} {X : Ec} {h0 : Hp} {o : Int32 × Hp} {F : Nat} (C : Cx X p s m args meth c RX1 cX1_codeOf 4 (some .int) "codeOf") {h : Hp} {x0 : Nat} {x1 : Int32} {H : Heap} {locs : List Loc} (k_x0 : hK h x0 = 1) (hkm : Km h0 h) (hW : Wx X h H) (hZ : va_S (aA (eB X)) s.heap H locs) (ls : Array Slot) (hl : lv_has ls 4 [(0, .ref x0), (1, .int x1)]) (hE : sX1_codeOf_16 F h x0 x1 = some o) : W p l e (rm 1 22) s m args below meth c H locs 0 0 (MQ below (QI X h0 o.1 o.2) args s 0 0 (aA (eB X))) (F0 m 16 ls []) := by
  refine lv_iconst (v := (0 : Int32)) C.1 C.2.1 dX1_codeOf_16 (by decide) ?_
  exact bX1_codeOf_17 C k_x0 hkm hW hZ _ (lv_sub hl [0, 1] rfl) hE
set_option maxRecDepth 20000 in
theorem ct_X1_codeOf (l : Launch) (X : Ec) (F : Nat) {h : Hp} {x0 : Nat} {x1 : Int32} {o : Int32 × Hp} (k_x0 : hK h x0 = 1) (hE : sX1_codeOf F h x0 x1 = some o) : MetI l yX1_codeOf cX1_codeOf 4 (some .int) 1 22 X [.ref x0, .int x1] h o := by
  refine x_met (by decide) (Nat.le_of_ble_eq_true rfl) ?_
  intro p e s m below meth c ls C hl hW hZ
  have hl : lv_has ls 4 [(0, .ref x0), (1, .int x1)] := hl
  have hkm : Km h h := Km.rf h
  refine lv_iload_n C.1 C.2.1 dX1_codeOf_0 rfl (lv_at hl 1 rfl) ?_
  refine lv_bipush (v := (65 : Int32)) C.1 C.2.1 dX1_codeOf_1 (by decide) ?_
  refine lv_icmp_lt (tgt := 16) C.1 C.2.1 dX1_codeOf_3 (by decide) (fun c_1 => ?_) (fun c_1 => ?_)
  · have hE := br_p hE c_1
    exact bX1_codeOf_16 C k_x0 hkm hW hZ _ (lv_sub hl [0, 1] rfl) hE
  · have hE := br_n hE c_1
    refine lv_iload_n C.1 C.2.1 dX1_codeOf_6 rfl (lv_at hl 1 rfl) ?_
    refine lv_bipush (v := (90 : Int32)) C.1 C.2.1 dX1_codeOf_7 (by decide) ?_
    refine lv_icmp_gt (tgt := 16) C.1 C.2.1 dX1_codeOf_9 (by decide) (fun c_2 => ?_) (fun c_2 => ?_)
    · have hE := br_p hE c_2
      exact bX1_codeOf_16 C k_x0 hkm hW hZ _ (lv_sub hl [0, 1] rfl) hE
    · have hE := br_n hE c_2
      refine lv_iconst (v := (1 : Int32)) C.1 C.2.1 dX1_codeOf_12 (by decide) ?_
      refine lv_goto (tgt := 17) C.1 C.2.1 dX1_codeOf_13 (by decide) ?_
      exact bX1_codeOf_17 C k_x0 hkm hW hZ _ (lv_sub hl [0, 1] rfl) hE
section
variable {p : Program} {l : Launch} {e : Env} {R : Room} {s : State} {m : MethodId} {args : Array Value} {below : List Frame} {meth : Method} {c : Code} {H : Heap} {locs : List Loc} {cells slots : Nat} {Q : State → Prop}
variable {cc : ByteArray} {pc : Nat} {ls : Array Slot} {rest : List Value} {X : Ec} {h h1 : Hp} {nL : Nat} {rt : Option FieldType} {mn : String}
theorem gf_X1_40 {a : Nat} (C : Cx X p s m args meth c RX1 cc nL rt mn) (hW : Wx X h H) (ha : hK h a = 1) (hdg : decode cc pc = .ok (.getfield 40, 3)) (kk : W p l e R s m args below meth c H locs cells slots Q (F0 m (pc + 3) ls (.int (hI h a 10) :: rest))) : W p l e R s m args below meth c H locs cells slots Q (F0 m pc ls (.ref a :: rest)) :=
  y_geti C hW ha i_X1 (by decide) rfl (by decide) m_109 rfl hdg kk
end
theorem dX1_has_0 : decode cX1_has 0 = .ok (.aload_n 0, 1) := by decide +kernel
theorem dX1_has_1 : decode cX1_has 1 = .ok (.getfield 40, 3) := by decide +kernel
theorem dX1_has_4 : decode cX1_has 4 = .ok (.iload_n 1, 1) := by decide +kernel
theorem dX1_has_5 : decode cX1_has 5 = .ok (.iand, 1) := by decide +kernel
theorem dX1_has_6 : decode cX1_has 6 = .ok (.ifCond .eq 7, 3) := by decide +kernel
theorem dX1_has_9 : decode cX1_has 9 = .ok (.iconst 1, 1) := by decide +kernel
theorem dX1_has_10 : decode cX1_has 10 = .ok (.goto 4, 3) := by decide +kernel
theorem dX1_has_13 : decode cX1_has 13 = .ok (.iconst 0, 1) := by decide +kernel
theorem dX1_has_14 : decode cX1_has 14 = .ok (.ireturn, 1) := by decide +kernel
set_option maxRecDepth 20000 in
theorem moX1_has_14 {o : Int32 × Hp} {h : Hp} {t0 : Int32} (hE : sX1_has_14 h  t0 = some o) : Le h o.2 := by
  obtain ⟨g_1, hE⟩ := gd_e hE
  exact le_some2 hE
set_option maxRecDepth 20000 in
theorem moX1_has {o : Int32 × Hp} {h : Hp} {x0 : Nat} {x1 : Int32} (hE : sX1_has h x0 x1 = some o) : Le h o.2 := by
  rcases br_e hE with ⟨_, hE⟩ | ⟨_, hE⟩
  · exact moX1_has_14 hE
  · exact moX1_has_14 hE
set_option maxRecDepth 20000 in
theorem bX1_has_14 {p : Program} {l : Launch} {e : Env} {s : State} {m : MethodId} {args : Array Value} {below : List Frame} {meth : Method} {c : Code} {X : Ec} {h0 : Hp} {o : Int32 × Hp} (C : Cx X p s m args meth c RX1 cX1_has 2 (some .boolean) "has") {h : Hp} {t0 : Int32} {H : Heap} {locs : List Loc} (hkm : Km h0 h) (hW : Wx X h H) (hZ : va_S (aA (eB X)) s.heap H locs) (ls : Array Slot) (hl : lv_has ls 2 []) (hE : sX1_has_14 h  t0 = some o) : W p l e (rm 0 0) s m args below meth c H locs 0 0 (MQ below (QI X h0 o.1 o.2) args s 0 0 (aA (eB X))) (F0 m 14 ls [.int t0]) := by
  obtain ⟨g_1, hE⟩ := gd_e hE
  exact x_iret C rfl (narB g_1) hW hZ hkm hE dX1_has_14
set_option maxRecDepth 20000 in
theorem ct_X1_has (l : Launch) (X : Ec) {h : Hp} {x0 : Nat} {x1 : Int32} {o : Int32 × Hp} (k_x0 : hK h x0 = 1) (hE : sX1_has h x0 x1 = some o) : MetI l yX1_has cX1_has 2 (some .boolean) 0 0 X [.ref x0, .int x1] h o := by
  refine x_met (by decide) (Nat.le_of_ble_eq_true rfl) ?_
  intro p e s m below meth c ls C hl hW hZ
  have hl : lv_has ls 2 [(0, .ref x0), (1, .int x1)] := hl
  have hkm : Km h h := Km.rf h
  refine lv_aload_n C.1 C.2.1 dX1_has_0 rfl (lv_at hl 0 rfl) ?_
  refine gf_X1_40 C hW k_x0 dX1_has_1 ?_
  refine lv_iload_n C.1 C.2.1 dX1_has_4 rfl (lv_at hl 1 rfl) ?_
  refine lv_iand C.1 C.2.1 dX1_has_5 ?_
  refine lv_if_eq (tgt := 13) C.1 C.2.1 dX1_has_6 (by decide) (fun c_1 => ?_) (fun c_1 => ?_)
  · have hE := br_p hE c_1
    refine lv_iconst (v := (0 : Int32)) C.1 C.2.1 dX1_has_13 (by decide) ?_
    exact bX1_has_14 C hkm hW hZ _ (lv_sub hl [] rfl) hE
  · have hE := br_n hE c_1
    refine lv_iconst (v := (1 : Int32)) C.1 C.2.1 dX1_has_9 (by decide) ?_
    refine lv_goto (tgt := 14) C.1 C.2.1 dX1_has_10 (by decide) ?_
    exact bX1_has_14 C hkm hW hZ _ (lv_sub hl [] rfl) hE
theorem dX1_isLast_0 : decode cX1_isLast 0 = .ok (.aload_n 0, 1) := by decide +kernel
theorem dX1_isLast_1 : decode cX1_isLast 1 = .ok (.getfield 30, 3) := by decide +kernel
theorem dX1_isLast_4 : decode cX1_isLast 4 = .ok (.iload_n 1, 1) := by decide +kernel
theorem dX1_isLast_5 : decode cX1_isLast 5 = .ok (.iaload, 1) := by decide +kernel
theorem dX1_isLast_6 : decode cX1_isLast 6 = .ok (.iload_n 2, 1) := by decide +kernel
theorem dX1_isLast_7 : decode cX1_isLast 7 = .ok (.ifCond .ne 12, 3) := by decide +kernel
theorem dX1_isLast_10 : decode cX1_isLast 10 = .ok (.aload_n 0, 1) := by decide +kernel
theorem dX1_isLast_11 : decode cX1_isLast 11 = .ok (.getfield 58, 3) := by decide +kernel
theorem dX1_isLast_14 : decode cX1_isLast 14 = .ok (.iconst 1, 1) := by decide +kernel
theorem dX1_isLast_15 : decode cX1_isLast 15 = .ok (.isub, 1) := by decide +kernel
theorem dX1_isLast_16 : decode cX1_isLast 16 = .ok (.goto 4, 3) := by decide +kernel
theorem dX1_isLast_19 : decode cX1_isLast 19 = .ok (.iconst 0, 1) := by decide +kernel
theorem dX1_isLast_20 : decode cX1_isLast 20 = .ok (.if_icmp .ne 7, 3) := by decide +kernel
theorem dX1_isLast_23 : decode cX1_isLast 23 = .ok (.iconst 1, 1) := by decide +kernel
theorem dX1_isLast_24 : decode cX1_isLast 24 = .ok (.goto 4, 3) := by decide +kernel
theorem dX1_isLast_27 : decode cX1_isLast 27 = .ok (.iconst 0, 1) := by decide +kernel
theorem dX1_isLast_28 : decode cX1_isLast 28 = .ok (.ireturn, 1) := by decide +kernel
set_option maxRecDepth 20000 in
theorem moX1_isLast_28 {o : Int32 × Hp} {h : Hp} {t0 : Int32} (hE : sX1_isLast_28 h  t0 = some o) : Le h o.2 := by
  obtain ⟨g_1, hE⟩ := gd_e hE
  exact le_some2 hE
set_option maxRecDepth 20000 in
theorem moX1_isLast_20 {o : Int32 × Hp} {h : Hp} {t0 : Int32} {t1 : Int32} (hE : sX1_isLast_20 h  t0 t1 = some o) : Le h o.2 := by
  rcases br_e hE with ⟨_, hE⟩ | ⟨_, hE⟩
  · exact moX1_isLast_28 hE
  · exact moX1_isLast_28 hE
set_option maxRecDepth 20000 in
theorem moX1_isLast {o : Int32 × Hp} {h : Hp} {x0 : Nat} {x1 : Int32} {x2 : Int32} (hE : sX1_isLast h x0 x1 x2 = some o) : Le h o.2 := by
  obtain ⟨r_1, er_1, hE⟩ := cl_e hE
  obtain ⟨g_2, hE⟩ := gd_e hE
  rcases br_e hE with ⟨_, hE⟩ | ⟨_, hE⟩
  · exact moX1_isLast_20 hE
  · exact moX1_isLast_20 hE
set_option maxRecDepth 20000 in
theorem bX1_isLast_28 {p : Program} {l : Launch} {e : Env} {s : State} {m : MethodId} {args : Array Value} {below : List Frame} {meth : Method} {c : Code} {X : Ec} {h0 : Hp} {o : Int32 × Hp} (C : Cx X p s m args meth c RX1 cX1_isLast 3 (some .boolean) "isLast") {h : Hp} {t0 : Int32} {H : Heap} {locs : List Loc} (hkm : Km h0 h) (hW : Wx X h H) (hZ : va_S (aA (eB X)) s.heap H locs) (ls : Array Slot) (hl : lv_has ls 3 []) (hE : sX1_isLast_28 h  t0 = some o) : W p l e (rm 0 0) s m args below meth c H locs 0 0 (MQ below (QI X h0 o.1 o.2) args s 0 0 (aA (eB X))) (F0 m 28 ls [.int t0]) := by
  obtain ⟨g_1, hE⟩ := gd_e hE
  exact x_iret C rfl (narB g_1) hW hZ hkm hE dX1_isLast_28
set_option maxRecDepth 20000 in
theorem bX1_isLast_20 {p : Program} {l : Launch} {e : Env} {s : State} {m : MethodId} {args : Array Value} {below : List Frame} {meth : Method} {c : Code} {X : Ec} {h0 : Hp} {o : Int32 × Hp} (C : Cx X p s m args meth c RX1 cX1_isLast 3 (some .boolean) "isLast") {h : Hp} {t0 : Int32} {t1 : Int32} {H : Heap} {locs : List Loc} (hkm : Km h0 h) (hW : Wx X h H) (hZ : va_S (aA (eB X)) s.heap H locs) (ls : Array Slot) (hl : lv_has ls 3 []) (hE : sX1_isLast_20 h  t0 t1 = some o) : W p l e (rm 0 0) s m args below meth c H locs 0 0 (MQ below (QI X h0 o.1 o.2) args s 0 0 (aA (eB X))) (F0 m 20 ls [.int t0, .int t1]) := by
  refine lv_icmp_ne (tgt := 27) C.1 C.2.1 dX1_isLast_20 (by decide) (fun c_1 => ?_) (fun c_1 => ?_)
  · have hE := br_n hE c_1
    refine lv_iconst (v := (0 : Int32)) C.1 C.2.1 dX1_isLast_27 (by decide) ?_
    exact bX1_isLast_28 C hkm hW hZ _ (lv_sub hl [] rfl) hE
  · have hE := br_p hE c_1
    refine lv_iconst (v := (1 : Int32)) C.1 C.2.1 dX1_isLast_23 (by decide) ?_
    refine lv_goto (tgt := 28) C.1 C.2.1 dX1_isLast_24 (by decide) ?_
    exact bX1_isLast_28 C hkm hW hZ _ (lv_sub hl [] rfl) hE
set_option maxRecDepth 20000 in
theorem ct_X1_isLast (l : Launch) (X : Ec) {h : Hp} {x0 : Nat} {x1 : Int32} {x2 : Int32} {o : Int32 × Hp} (k_x0 : hK h x0 = 1) (hE : sX1_isLast h x0 x1 x2 = some o) : MetI l yX1_isLast cX1_isLast 3 (some .boolean) 0 0 X [.ref x0, .int x1, .int x2] h o := by
  refine x_met (by decide) (Nat.le_of_ble_eq_true rfl) ?_
  intro p e s m below meth c ls C hl hW hZ
  have hl : lv_has ls 3 [(0, .ref x0), (1, .int x1), (2, .int x2)] := hl
  have hkm : Km h h := Km.rf h
  refine lv_aload_n C.1 C.2.1 dX1_isLast_0 rfl (lv_at hl 0 rfl) ?_
  obtain ⟨r_1, er_1, hE⟩ := cl_e hE
  refine gf_X1_30 C hW k_x0 er_1 dX1_isLast_1 (fun k_r_1 => ?_)
  refine lv_iload_n C.1 C.2.1 dX1_isLast_4 rfl (lv_at hl 1 rfl) ?_
  obtain ⟨g_2, hE⟩ := gd_e hE
  refine y_iald C hW k_r_1 g_2 dX1_isLast_5 ?_
  refine lv_iload_n C.1 C.2.1 dX1_isLast_6 rfl (lv_at hl 2 rfl) ?_
  refine lv_if_ne (tgt := 19) C.1 C.2.1 dX1_isLast_7 (by decide) (fun c_3 => ?_) (fun c_3 => ?_)
  · have hE := br_n hE c_3
    refine lv_iconst (v := (0 : Int32)) C.1 C.2.1 dX1_isLast_19 (by decide) ?_
    exact bX1_isLast_20 C hkm hW hZ _ (lv_sub hl [] rfl) hE
  · have hE := br_p hE c_3
    refine lv_aload_n C.1 C.2.1 dX1_isLast_10 rfl (lv_at hl 0 rfl) ?_
    refine gf_X1_58 C hW k_x0 dX1_isLast_11 ?_
    refine lv_iconst (v := (1 : Int32)) C.1 C.2.1 dX1_isLast_14 (by decide) ?_
    refine lv_isub C.1 C.2.1 dX1_isLast_15 ?_
    refine lv_goto (tgt := 20) C.1 C.2.1 dX1_isLast_16 (by decide) ?_
    exact bX1_isLast_20 C hkm hW hZ _ (lv_sub hl [] rfl) hE
set_option maxRecDepth 100000 in
theorem m_1037 : Cond.instanceMethod yX1_isLast ∈ W0 := w0_in (List.mem_append_right _ (List.mem_of_getElem? (i := 1037) rfl)) rfl
set_option maxRecDepth 100000 in
theorem m_1038 : Cond.selects RX1 yX1_isLast yX1_isLast ∈ W0 := w0_in (List.mem_append_right _ (List.mem_of_getElem? (i := 1038) rfl)) rfl
set_option maxRecDepth 100000 in
theorem m_1039 : Cond.code yX1_isLast cX1_isLast 3 (some .boolean) ∈ W0 := w0_in (List.mem_append_right _ (List.mem_of_getElem? (i := 1039) rfl)) rfl
set_option maxRecDepth 100000 in
theorem m_1048 : Cond.methodLink RX1 91 yX1_isLast ∈ W0 := w0_in (List.mem_append_right _ (List.mem_of_getElem? (i := 1048) rfl)) rfl
theorem cw_X1_91 : cwd RX1 91 yX1_isLast cX1_isLast 3 (some .boolean) false 2 := ⟨m_1039, m_1048, m_4, ⟨m_1037, m_1038⟩, by decide, by decide, by decide +kernel⟩
theorem dX1_isFirst_0 : decode cX1_isFirst 0 = .ok (.aload_n 0, 1) := by decide +kernel
theorem dX1_isFirst_1 : decode cX1_isFirst 1 = .ok (.iload_n 1, 1) := by decide +kernel
theorem dX1_isFirst_2 : decode cX1_isFirst 2 = .ok (.iconst 1, 1) := by decide +kernel
theorem dX1_isFirst_3 : decode cX1_isFirst 3 = .ok (.iload_n 2, 1) := by decide +kernel
theorem dX1_isFirst_4 : decode cX1_isFirst 4 = .ok (.isub, 1) := by decide +kernel
theorem dX1_isFirst_5 : decode cX1_isFirst 5 = .ok (.invokevirtual 91, 3) := by decide +kernel
theorem dX1_isFirst_8 : decode cX1_isFirst 8 = .ok (.ireturn, 1) := by decide +kernel
set_option maxRecDepth 20000 in
theorem moX1_isFirst {o : Int32 × Hp} {h : Hp} {x0 : Nat} {x1 : Int32} {x2 : Int32} (hE : sX1_isFirst h x0 x1 x2 = some o) : Le h o.2 := by
  obtain ⟨o_1, eo_1, hE⟩ := cl_e hE
  refine (moX1_isLast eo_1).tr ?_
  obtain ⟨g_2, hE⟩ := gd_e hE
  exact le_some2 hE
set_option maxRecDepth 20000 in
theorem ct_X1_isFirst (l : Launch) (X : Ec) {h : Hp} {x0 : Nat} {x1 : Int32} {x2 : Int32} {o : Int32 × Hp} (k_x0 : hK h x0 = 1) (hE : sX1_isFirst h x0 x1 x2 = some o) : MetI l yX1_isFirst cX1_isFirst 3 (some .boolean) 1 22 X [.ref x0, .int x1, .int x2] h o := by
  refine x_met (by decide) (Nat.le_of_ble_eq_true rfl) ?_
  intro p e s m below meth c ls C hl hW hZ
  have hl : lv_has ls 3 [(0, .ref x0), (1, .int x1), (2, .int x2)] := hl
  have hkm : Km h h := Km.rf h
  refine lv_aload_n C.1 C.2.1 dX1_isFirst_0 rfl (lv_at hl 0 rfl) ?_
  refine lv_iload_n C.1 C.2.1 dX1_isFirst_1 rfl (lv_at hl 1 rfl) ?_
  refine lv_iconst (v := (1 : Int32)) C.1 C.2.1 dX1_isFirst_2 (by decide) ?_
  refine lv_iload_n C.1 C.2.1 dX1_isFirst_3 rfl (lv_at hl 2 rfl) ?_
  refine lv_isub C.1 C.2.1 dX1_isFirst_4 ?_
  obtain ⟨o_1, eo_1, hE⟩ := cl_e hE
  refine x_kI (o := o_1) (z_runV (As := [.int x1, .int ((1 : Int32) - x2)]) (rest := []) C (ct_X1_isLast l X k_x0 eo_1) cw_X1_91 hW hZ k_x0 (by decide) rfl rfl rfl hl.1 (Nat.le_of_ble_eq_true rfl) rfl dX1_isFirst_5 ⟨Nat.le_of_ble_eq_true rfl, Nat.le_of_ble_eq_true rfl⟩ ⟨Nat.le_refl _, Nat.le_refl _⟩) hZ (fun _ _ hW km hZ => ?_)
  replace hkm := hkm.tr km
  replace k_x0 := km.at k_x0 (by decide)
  obtain ⟨g_2, hE⟩ := gd_e hE
  exact x_iret C rfl (narB g_2) hW hZ hkm hE dX1_isFirst_8
theorem dX1_letterOf_0 : decode cX1_letterOf 0 = .ok (.iload_n 1, 1) := by decide +kernel
theorem dX1_letterOf_1 : decode cX1_letterOf 1 = .ok (.iconst 1, 1) := by decide +kernel
theorem dX1_letterOf_2 : decode cX1_letterOf 2 = .ok (.ishr, 1) := by decide +kernel
theorem dX1_letterOf_3 : decode cX1_letterOf 3 = .ok (.istore_n 2, 1) := by decide +kernel
theorem dX1_letterOf_4 : decode cX1_letterOf 4 = .ok (.iload_n 2, 1) := by decide +kernel
theorem dX1_letterOf_5 : decode cX1_letterOf 5 = .ok (.ifCond .lt 11, 3) := by decide +kernel
theorem dX1_letterOf_8 : decode cX1_letterOf 8 = .ok (.iload_n 2, 1) := by decide +kernel
theorem dX1_letterOf_9 : decode cX1_letterOf 9 = .ok (.aload_n 0, 1) := by decide +kernel
theorem dX1_letterOf_10 : decode cX1_letterOf 10 = .ok (.getfield 52, 3) := by decide +kernel
theorem dX1_letterOf_13 : decode cX1_letterOf 13 = .ok (.if_icmp .lt 6, 3) := by decide +kernel
theorem dX1_letterOf_16 : decode cX1_letterOf 16 = .ok (.bipush 63, 2) := by decide +kernel
theorem dX1_letterOf_18 : decode cX1_letterOf 18 = .ok (.ireturn, 1) := by decide +kernel
theorem dX1_letterOf_19 : decode cX1_letterOf 19 = .ok (.iload_n 1, 1) := by decide +kernel
theorem dX1_letterOf_20 : decode cX1_letterOf 20 = .ok (.iconst 1, 1) := by decide +kernel
theorem dX1_letterOf_21 : decode cX1_letterOf 21 = .ok (.iand, 1) := by decide +kernel
theorem dX1_letterOf_22 : decode cX1_letterOf 22 = .ok (.ifCond .ne 15, 3) := by decide +kernel
theorem dX1_letterOf_25 : decode cX1_letterOf 25 = .ok (.aload_n 0, 1) := by decide +kernel
theorem dX1_letterOf_26 : decode cX1_letterOf 26 = .ok (.getfield 9, 3) := by decide +kernel
theorem dX1_letterOf_29 : decode cX1_letterOf 29 = .ok (.iload_n 2, 1) := by decide +kernel
theorem dX1_letterOf_30 : decode cX1_letterOf 30 = .ok (.iaload, 1) := by decide +kernel
theorem dX1_letterOf_31 : decode cX1_letterOf 31 = .ok (.bipush 32, 2) := by decide +kernel
theorem dX1_letterOf_33 : decode cX1_letterOf 33 = .ok (.isub, 1) := by decide +kernel
theorem dX1_letterOf_34 : decode cX1_letterOf 34 = .ok (.goto 9, 3) := by decide +kernel
theorem dX1_letterOf_37 : decode cX1_letterOf 37 = .ok (.aload_n 0, 1) := by decide +kernel
theorem dX1_letterOf_38 : decode cX1_letterOf 38 = .ok (.getfield 9, 3) := by decide +kernel
theorem dX1_letterOf_41 : decode cX1_letterOf 41 = .ok (.iload_n 2, 1) := by decide +kernel
theorem dX1_letterOf_42 : decode cX1_letterOf 42 = .ok (.iaload, 1) := by decide +kernel
theorem dX1_letterOf_43 : decode cX1_letterOf 43 = .ok (.ireturn, 1) := by decide +kernel
set_option maxRecDepth 20000 in
theorem moX1_letterOf_16 {o : Int32 × Hp} {h : Hp} (hE : sX1_letterOf_16 h  = some o) : Le h o.2 := by
  exact le_some2 hE
set_option maxRecDepth 20000 in
theorem moX1_letterOf_43 {o : Int32 × Hp} {h : Hp} {t0 : Int32} (hE : sX1_letterOf_43 h  t0 = some o) : Le h o.2 := by
  exact le_some2 hE
set_option maxRecDepth 20000 in
theorem moX1_letterOf {o : Int32 × Hp} {h : Hp} {x0 : Nat} {x1 : Int32} (hE : sX1_letterOf h x0 x1 = some o) : Le h o.2 := by
  obtain ⟨v_1, ev_1, hE⟩ := nm_e2 hE
  rcases br_e hE with ⟨_, hE⟩ | ⟨_, hE⟩
  · exact moX1_letterOf_16 hE
  · rcases br_e hE with ⟨_, hE⟩ | ⟨_, hE⟩
    · rcases br_e hE with ⟨_, hE⟩ | ⟨_, hE⟩
      · obtain ⟨r_7, er_7, hE⟩ := cl_e hE
        obtain ⟨g_8, hE⟩ := gd_e hE
        exact moX1_letterOf_43 hE
      · obtain ⟨r_5, er_5, hE⟩ := cl_e hE
        obtain ⟨g_6, hE⟩ := gd_e hE
        exact moX1_letterOf_43 hE
    · exact moX1_letterOf_16 hE
set_option maxRecDepth 20000 in
theorem bX1_letterOf_16 {p : Program} {l : Launch} {e : Env} {s : State} {m : MethodId} {args : Array Value} {below : List Frame} {meth : Method} {c : Code} {X : Ec} {h0 : Hp} {o : Int32 × Hp} (C : Cx X p s m args meth c RX1 cX1_letterOf 3 (some .int) "letterOf") {h : Hp} {H : Heap} {locs : List Loc} (hkm : Km h0 h) (hW : Wx X h H) (hZ : va_S (aA (eB X)) s.heap H locs) (ls : Array Slot) (hl : lv_has ls 3 []) (hE : sX1_letterOf_16 h  = some o) : W p l e (rm 0 0) s m args below meth c H locs 0 0 (MQ below (QI X h0 o.1 o.2) args s 0 0 (aA (eB X))) (F0 m 16 ls []) := by
  refine lv_bipush (v := (63 : Int32)) C.1 C.2.1 dX1_letterOf_16 (by decide) ?_
  exact x_iret C rfl rfl hW hZ hkm hE dX1_letterOf_18
set_option maxRecDepth 20000 in
theorem bX1_letterOf_43 {p : Program} {l : Launch} {e : Env} {s : State} {m : MethodId} {args : Array Value} {below : List Frame} {meth : Method} {c : Code} {X : Ec} {h0 : Hp} {o : Int32 × Hp} (C : Cx X p s m args meth c RX1 cX1_letterOf 3 (some .int) "letterOf") {h : Hp} {t0 : Int32} {H : Heap} {locs : List Loc} (hkm : Km h0 h) (hW : Wx X h H) (hZ : va_S (aA (eB X)) s.heap H locs) (ls : Array Slot) (hl : lv_has ls 3 []) (hE : sX1_letterOf_43 h  t0 = some o) : W p l e (rm 0 0) s m args below meth c H locs 0 0 (MQ below (QI X h0 o.1 o.2) args s 0 0 (aA (eB X))) (F0 m 43 ls [.int t0]) := by
  exact x_iret C rfl rfl hW hZ hkm hE dX1_letterOf_43
set_option maxRecDepth 20000 in
theorem ct_X1_letterOf (l : Launch) (X : Ec) {h : Hp} {x0 : Nat} {x1 : Int32} {o : Int32 × Hp} (k_x0 : hK h x0 = 1) (hE : sX1_letterOf h x0 x1 = some o) : MetI l yX1_letterOf cX1_letterOf 3 (some .int) 0 0 X [.ref x0, .int x1] h o := by
  refine x_met (by decide) (Nat.le_of_ble_eq_true rfl) ?_
  intro p e s m below meth c ls C hl hW hZ
  have hl : lv_has ls 3 [(0, .ref x0), (1, .int x1)] := hl
  have hkm : Km h h := Km.rf h
  refine lv_iload_n C.1 C.2.1 dX1_letterOf_0 rfl (lv_at hl 1 rfl) ?_
  refine lv_iconst (v := (1 : Int32)) C.1 C.2.1 dX1_letterOf_1 (by decide) ?_
  refine lv_ishr C.1 C.2.1 dX1_letterOf_2 ?_
  obtain ⟨v_1, ev_1, hE⟩ := nm_e2 hE
  refine x_nmI ev_1 ?_
  refine lv_istore_n (lv' := [(2, .int v_1), (0, .ref x0), (1, .int x1)]) C.1 C.2.1 dX1_letterOf_3 rfl hl (by decide) rfl (fun ls hl => ?_)
  refine lv_iload_n C.1 C.2.1 dX1_letterOf_4 rfl (lv_at hl 0 rfl) ?_
  refine lv_if_lt (tgt := 16) C.1 C.2.1 dX1_letterOf_5 (by decide) (fun c_2 => ?_) (fun c_2 => ?_)
  · have hE := br_p hE c_2
    exact bX1_letterOf_16 C hkm hW hZ _ (lv_sub hl [] rfl) hE
  · have hE := br_n hE c_2
    refine lv_iload_n C.1 C.2.1 dX1_letterOf_8 rfl (lv_at hl 0 rfl) ?_
    refine lv_aload_n C.1 C.2.1 dX1_letterOf_9 rfl (lv_at hl 1 rfl) ?_
    refine gf_X1_52 C hW k_x0 dX1_letterOf_10 ?_
    refine lv_icmp_lt (tgt := 19) C.1 C.2.1 dX1_letterOf_13 (by decide) (fun c_3 => ?_) (fun c_3 => ?_)
    · have hE := br_p hE c_3
      refine lv_iload_n C.1 C.2.1 dX1_letterOf_19 rfl (lv_at hl 2 rfl) ?_
      refine lv_iconst (v := (1 : Int32)) C.1 C.2.1 dX1_letterOf_20 (by decide) ?_
      refine lv_iand C.1 C.2.1 dX1_letterOf_21 ?_
      refine lv_if_ne (tgt := 37) C.1 C.2.1 dX1_letterOf_22 (by decide) (fun c_4 => ?_) (fun c_4 => ?_)
      · have hE := br_n hE c_4
        refine lv_aload_n C.1 C.2.1 dX1_letterOf_37 rfl (lv_at hl 1 rfl) ?_
        obtain ⟨r_5, er_5, hE⟩ := cl_e hE
        refine gf_X1_9 C hW k_x0 er_5 dX1_letterOf_38 (fun k_r_5 => ?_)
        refine lv_iload_n C.1 C.2.1 dX1_letterOf_41 rfl (lv_at hl 0 rfl) ?_
        obtain ⟨g_6, hE⟩ := gd_e hE
        refine y_iald C hW k_r_5 g_6 dX1_letterOf_42 ?_
        exact bX1_letterOf_43 C hkm hW hZ _ (lv_sub hl [] rfl) hE
      · have hE := br_p hE c_4
        refine lv_aload_n C.1 C.2.1 dX1_letterOf_25 rfl (lv_at hl 1 rfl) ?_
        obtain ⟨r_7, er_7, hE⟩ := cl_e hE
        refine gf_X1_9 C hW k_x0 er_7 dX1_letterOf_26 (fun k_r_7 => ?_)
        refine lv_iload_n C.1 C.2.1 dX1_letterOf_29 rfl (lv_at hl 0 rfl) ?_
        obtain ⟨g_8, hE⟩ := gd_e hE
        refine y_iald C hW k_r_7 g_8 dX1_letterOf_30 ?_
        refine lv_bipush (v := (32 : Int32)) C.1 C.2.1 dX1_letterOf_31 (by decide) ?_
        refine lv_isub C.1 C.2.1 dX1_letterOf_33 ?_
        refine lv_goto (tgt := 43) C.1 C.2.1 dX1_letterOf_34 (by decide) ?_
        exact bX1_letterOf_43 C hkm hW hZ _ (lv_sub hl [] rfl) hE
    · have hE := br_n hE c_3
      exact bX1_letterOf_16 C hkm hW hZ _ (lv_sub hl [] rfl) hE
