set_option maxRecDepth 100000 in
theorem m_454 : Cond.methodLink RX0 5 objectInit ∈ W0 := w0_in (List.mem_append_right _ (List.mem_of_getElem? (i := 454) rfl)) rfl
set_option maxRecDepth 100000 in
theorem m_455 : Cond.classLink RX0 11 RX3 ∈ W0 := w0_in (List.mem_append_right _ (List.mem_of_getElem? (i := 455) rfl)) rfl
set_option maxRecDepth 100000 in
theorem m_456 : Cond.methodLink RX0 13 yX3_init ∈ W0 := w0_in (List.mem_append_right _ (List.mem_of_getElem? (i := 456) rfl)) rfl
set_option maxRecDepth 100000 in
theorem m_457 : Cond.fieldLink RX0 40 (TX0 0).1 (TX0 0).2.1 (TX0 0).2.2.1 ∈ W0 := w0_in (List.mem_append_right _ (List.mem_of_getElem? (i := 457) rfl)) rfl
set_option maxRecDepth 100000 in
theorem m_458 : Cond.fieldLink RX0 44 (TX0 1).1 (TX0 1).2.1 (TX0 1).2.2.1 ∈ W0 := w0_in (List.mem_append_right _ (List.mem_of_getElem? (i := 458) rfl)) rfl
set_option maxRecDepth 100000 in
theorem m_459 : Cond.fieldLink RX0 48 (TX0 2).1 (TX0 2).2.1 (TX0 2).2.2.1 ∈ W0 := w0_in (List.mem_append_right _ (List.mem_of_getElem? (i := 459) rfl)) rfl
set_option maxRecDepth 100000 in
theorem m_460 : Cond.fieldLink RX0 14 (TX0 3).1 (TX0 3).2.1 (TX0 3).2.2.1 ∈ W0 := w0_in (List.mem_append_right _ (List.mem_of_getElem? (i := 460) rfl)) rfl
set_option maxRecDepth 100000 in
theorem m_461 : Cond.fieldLink RX0 18 (TX0 4).1 (TX0 4).2.1 (TX0 4).2.2.1 ∈ W0 := w0_in (List.mem_append_right _ (List.mem_of_getElem? (i := 461) rfl)) rfl
set_option maxRecDepth 100000 in
theorem m_462 : Cond.fieldLink RX0 22 (TX0 5).1 (TX0 5).2.1 (TX0 5).2.2.1 ∈ W0 := w0_in (List.mem_append_right _ (List.mem_of_getElem? (i := 462) rfl)) rfl
set_option maxRecDepth 100000 in
theorem m_463 : Cond.fieldLink RX0 25 (TX0 6).1 (TX0 6).2.1 (TX0 6).2.2.1 ∈ W0 := w0_in (List.mem_append_right _ (List.mem_of_getElem? (i := 463) rfl)) rfl
set_option maxRecDepth 100000 in
theorem m_464 : Cond.fieldLink RX0 28 (TX0 7).1 (TX0 7).2.1 (TX0 7).2.2.1 ∈ W0 := w0_in (List.mem_append_right _ (List.mem_of_getElem? (i := 464) rfl)) rfl
set_option maxRecDepth 100000 in
theorem m_470 : Cond.fieldLink RX0 31 (TX0 11).1 (TX0 11).2.1 (TX0 11).2.2.1 ∈ W0 := w0_in (List.mem_append_right _ (List.mem_of_getElem? (i := 470) rfl)) rfl
set_option maxRecDepth 100000 in
theorem m_472 : Cond.fieldLink RX0 34 (TX0 12).1 (TX0 12).2.1 (TX0 12).2.2.1 ∈ W0 := w0_in (List.mem_append_right _ (List.mem_of_getElem? (i := 472) rfl)) rfl
set_option maxRecDepth 100000 in
theorem m_473 : Cond.fieldLink RX0 37 (TX0 13).1 (TX0 13).2.1 (TX0 13).2.2.1 ∈ W0 := w0_in (List.mem_append_right _ (List.mem_of_getElem? (i := 473) rfl)) rfl
theorem i_X0 : ∀ w ∈ u_ws RX0 TX0 19, w ∈ W0 := by
  intro w hw
  exact w0_in (List.mem_append_right _ ((by decide +kernel : ∀ w ∈ u_ws RX0 TX0 19, w ∈ tables_1) w hw)) ((by decide +kernel : ∀ w ∈ u_ws RX0 TX0 19, goodWord w = true) w hw)
section
variable {p : Program} {l : Launch} {e : Env} {R : Room} {s : State} {m : MethodId} {args : Array Value} {below : List Frame} {meth : Method} {c : Code} {H : Heap} {locs : List Loc} {cells slots : Nat} {Q : State → Prop}
variable {cc : ByteArray} {pc : Nat} {ls : Array Slot} {rest : List Value} {X : Ec} {h h1 : Hp} {nL : Nat} {rt : Option FieldType} {mn : String}
theorem pf_X0_37 {a r : Nat} (C : Cx X p s m args meth c RX0 cc nL rt mn) (hW : Wx X h H) (hZ : va_S (aA (eB X)) s.heap H locs) (ha : hK h a = 0) (hr : hK h r = 17) (eh : h1 = wR h a 13 (some r)) (hdg : decode cc pc = .ok (.putfield 37, 3)) (kk : ∀ (H1 : Heap) (locs1 : List Loc), Wx X h1 H1 → Km h h1 → va_S (aA (eB X)) s.heap H1 locs1 → W p l e R s m args below meth c H1 locs1 cells slots Q (F0 m (pc + 3) ls rest)) : W p l e R s m args below meth c H locs cells slots Q (F0 m pc ls (.ref r :: .ref a :: rest)) :=
  y_putr (ty := .array .int) C hW hZ ha i_X0 tyX0 tyX0_ok nmX0 (by decide) rfl rfl (by decide) m_473 rfl (by decide +kernel) rfl rfl rfl hr rfl (by decide) eh hdg kk
theorem pf_X0_40 {a r : Nat} (C : Cx X p s m args meth c RX0 cc nL rt mn) (hW : Wx X h H) (hZ : va_S (aA (eB X)) s.heap H locs) (hmn : mn = "<init>") (ha : hK h a = 0) (hr : hK h r = 1) (eh : h1 = wR h a 0 (some r)) (hdg : decode cc pc = .ok (.putfield 40, 3)) (kk : ∀ (H1 : Heap) (locs1 : List Loc), Wx X h1 H1 → Km h h1 → va_S (aA (eB X)) s.heap H1 locs1 → W p l e R s m args below meth c H1 locs1 cells slots Q (F0 m (pc + 3) ls rest)) : W p l e R s m args below meth c H locs cells slots Q (F0 m pc ls (.ref r :: .ref a :: rest)) :=
  y_putrF (ty := .object "GameRules$Law") C hW hZ ha i_X0 tyX0 tyX0_ok nmX0 (by decide) rfl rfl (by decide) m_457 rfl hmn rfl (by decide +kernel) rfl rfl rfl hr rfl (by decide) eh hdg kk
theorem pf_X0_44 {a r : Nat} (C : Cx X p s m args meth c RX0 cc nL rt mn) (hW : Wx X h H) (hZ : va_S (aA (eB X)) s.heap H locs) (hmn : mn = "<init>") (ha : hK h a = 0) (hr : hK h r = 10) (eh : h1 = wR h a 1 (some r)) (hdg : decode cc pc = .ok (.putfield 44, 3)) (kk : ∀ (H1 : Heap) (locs1 : List Loc), Wx X h1 H1 → Km h h1 → va_S (aA (eB X)) s.heap H1 locs1 → W p l e R s m args below meth c H1 locs1 cells slots Q (F0 m (pc + 3) ls rest)) : W p l e R s m args below meth c H locs cells slots Q (F0 m pc ls (.ref r :: .ref a :: rest)) :=
  y_putrF (ty := .object "GameRules$Ways") C hW hZ ha i_X0 tyX0 tyX0_ok nmX0 (by decide) rfl rfl (by decide) m_458 rfl hmn rfl (by decide +kernel) rfl rfl rfl hr rfl (by decide) eh hdg kk
theorem pf_X0_48 {a r : Nat} (C : Cx X p s m args meth c RX0 cc nL rt mn) (hW : Wx X h H) (hZ : va_S (aA (eB X)) s.heap H locs) (hmn : mn = "<init>") (ha : hK h a = 0) (hr : hK h r = 5) (eh : h1 = wR h a 2 (some r)) (hdg : decode cc pc = .ok (.putfield 48, 3)) (kk : ∀ (H1 : Heap) (locs1 : List Loc), Wx X h1 H1 → Km h h1 → va_S (aA (eB X)) s.heap H1 locs1 → W p l e R s m args below meth c H1 locs1 cells slots Q (F0 m (pc + 3) ls rest)) : W p l e R s m args below meth c H locs cells slots Q (F0 m pc ls (.ref r :: .ref a :: rest)) :=
  y_putrF (ty := .object "GameRules$Referee") C hW hZ ha i_X0 tyX0 tyX0_ok nmX0 (by decide) rfl rfl (by decide) m_459 rfl hmn rfl (by decide +kernel) rfl rfl rfl hr rfl (by decide) eh hdg kk
theorem pf_X0_34 {a r : Nat} (C : Cx X p s m args meth c RX0 cc nL rt mn) (hW : Wx X h H) (hZ : va_S (aA (eB X)) s.heap H locs) (ha : hK h a = 0) (hr : hK h r = 17) (eh : h1 = wR h a 12 (some r)) (hdg : decode cc pc = .ok (.putfield 34, 3)) (kk : ∀ (H1 : Heap) (locs1 : List Loc), Wx X h1 H1 → Km h h1 → va_S (aA (eB X)) s.heap H1 locs1 → W p l e R s m args below meth c H1 locs1 cells slots Q (F0 m (pc + 3) ls rest)) : W p l e R s m args below meth c H locs cells slots Q (F0 m pc ls (.ref r :: .ref a :: rest)) :=
  y_putr (ty := .array .int) C hW hZ ha i_X0 tyX0 tyX0_ok nmX0 (by decide) rfl rfl (by decide) m_472 rfl (by decide +kernel) rfl rfl rfl hr rfl (by decide) eh hdg kk
theorem pf_X0_31 {a r : Nat} (C : Cx X p s m args meth c RX0 cc nL rt mn) (hW : Wx X h H) (hZ : va_S (aA (eB X)) s.heap H locs) (ha : hK h a = 0) (hr : hK h r = 17) (eh : h1 = wR h a 11 (some r)) (hdg : decode cc pc = .ok (.putfield 31, 3)) (kk : ∀ (H1 : Heap) (locs1 : List Loc), Wx X h1 H1 → Km h h1 → va_S (aA (eB X)) s.heap H1 locs1 → W p l e R s m args below meth c H1 locs1 cells slots Q (F0 m (pc + 3) ls rest)) : W p l e R s m args below meth c H locs cells slots Q (F0 m pc ls (.ref r :: .ref a :: rest)) :=
  y_putr (ty := .array .int) C hW hZ ha i_X0 tyX0 tyX0_ok nmX0 (by decide) rfl rfl (by decide) m_470 rfl (by decide +kernel) rfl rfl rfl hr rfl (by decide) eh hdg kk
theorem pf_X0_28 {a r : Nat} (C : Cx X p s m args meth c RX0 cc nL rt mn) (hW : Wx X h H) (hZ : va_S (aA (eB X)) s.heap H locs) (hmn : mn = "<init>") (ha : hK h a = 0) (hr : hK h r = 17) (eh : h1 = wR h a 7 (some r)) (hdg : decode cc pc = .ok (.putfield 28, 3)) (kk : ∀ (H1 : Heap) (locs1 : List Loc), Wx X h1 H1 → Km h h1 → va_S (aA (eB X)) s.heap H1 locs1 → W p l e R s m args below meth c H1 locs1 cells slots Q (F0 m (pc + 3) ls rest)) : W p l e R s m args below meth c H locs cells slots Q (F0 m pc ls (.ref r :: .ref a :: rest)) :=
  y_putrF (ty := .array .int) C hW hZ ha i_X0 tyX0 tyX0_ok nmX0 (by decide) rfl rfl (by decide) m_464 rfl hmn rfl (by decide +kernel) rfl rfl rfl hr rfl (by decide) eh hdg kk
theorem pf_X0_25 {a r : Nat} (C : Cx X p s m args meth c RX0 cc nL rt mn) (hW : Wx X h H) (hZ : va_S (aA (eB X)) s.heap H locs) (hmn : mn = "<init>") (ha : hK h a = 0) (hr : hK h r = 17) (eh : h1 = wR h a 6 (some r)) (hdg : decode cc pc = .ok (.putfield 25, 3)) (kk : ∀ (H1 : Heap) (locs1 : List Loc), Wx X h1 H1 → Km h h1 → va_S (aA (eB X)) s.heap H1 locs1 → W p l e R s m args below meth c H1 locs1 cells slots Q (F0 m (pc + 3) ls rest)) : W p l e R s m args below meth c H locs cells slots Q (F0 m pc ls (.ref r :: .ref a :: rest)) :=
  y_putrF (ty := .array .int) C hW hZ ha i_X0 tyX0 tyX0_ok nmX0 (by decide) rfl rfl (by decide) m_463 rfl hmn rfl (by decide +kernel) rfl rfl rfl hr rfl (by decide) eh hdg kk
theorem pf_X0_22 {a r : Nat} (C : Cx X p s m args meth c RX0 cc nL rt mn) (hW : Wx X h H) (hZ : va_S (aA (eB X)) s.heap H locs) (hmn : mn = "<init>") (ha : hK h a = 0) (hr : hK h r = 17) (eh : h1 = wR h a 5 (some r)) (hdg : decode cc pc = .ok (.putfield 22, 3)) (kk : ∀ (H1 : Heap) (locs1 : List Loc), Wx X h1 H1 → Km h h1 → va_S (aA (eB X)) s.heap H1 locs1 → W p l e R s m args below meth c H1 locs1 cells slots Q (F0 m (pc + 3) ls rest)) : W p l e R s m args below meth c H locs cells slots Q (F0 m pc ls (.ref r :: .ref a :: rest)) :=
  y_putrF (ty := .array .int) C hW hZ ha i_X0 tyX0 tyX0_ok nmX0 (by decide) rfl rfl (by decide) m_462 rfl hmn rfl (by decide +kernel) rfl rfl rfl hr rfl (by decide) eh hdg kk
theorem pf_X0_18 {a r : Nat} (C : Cx X p s m args meth c RX0 cc nL rt mn) (hW : Wx X h H) (hZ : va_S (aA (eB X)) s.heap H locs) (hmn : mn = "<init>") (ha : hK h a = 0) (hr : hK h r = 17) (eh : h1 = wR h a 4 (some r)) (hdg : decode cc pc = .ok (.putfield 18, 3)) (kk : ∀ (H1 : Heap) (locs1 : List Loc), Wx X h1 H1 → Km h h1 → va_S (aA (eB X)) s.heap H1 locs1 → W p l e R s m args below meth c H1 locs1 cells slots Q (F0 m (pc + 3) ls rest)) : W p l e R s m args below meth c H locs cells slots Q (F0 m pc ls (.ref r :: .ref a :: rest)) :=
  y_putrF (ty := .array .int) C hW hZ ha i_X0 tyX0 tyX0_ok nmX0 (by decide) rfl rfl (by decide) m_461 rfl hmn rfl (by decide +kernel) rfl rfl rfl hr rfl (by decide) eh hdg kk
theorem pf_X0_14 {a r : Nat} (C : Cx X p s m args meth c RX0 cc nL rt mn) (hW : Wx X h H) (hZ : va_S (aA (eB X)) s.heap H locs) (hmn : mn = "<init>") (ha : hK h a = 0) (hr : hK h r = 3) (eh : h1 = wR h a 3 (some r)) (hdg : decode cc pc = .ok (.putfield 14, 3)) (kk : ∀ (H1 : Heap) (locs1 : List Loc), Wx X h1 H1 → Km h h1 → va_S (aA (eB X)) s.heap H1 locs1 → W p l e R s m args below meth c H1 locs1 cells slots Q (F0 m (pc + 3) ls rest)) : W p l e R s m args below meth c H locs cells slots Q (F0 m pc ls (.ref r :: .ref a :: rest)) :=
  y_putrF (ty := .object "GameRules$Position") C hW hZ ha i_X0 tyX0 tyX0_ok nmX0 (by decide) rfl rfl (by decide) m_460 rfl hmn rfl (by decide +kernel) rfl rfl rfl hr rfl (by decide) eh hdg kk
end
theorem ci_X0_13 : cwi RX0 13 yX3_init cX3_init 1 0 := ⟨m_269, m_456, m_8, m_268, rfl, by decide, by decide, by decide +kernel⟩
theorem dX0_init_0 : decode cX0_init 0 = .ok (.aload_n 0, 1) := by decide +kernel
theorem dX0_init_1 : decode cX0_init 1 = .ok (.invokespecial 5, 3) := by decide +kernel
theorem dX0_init_4 : decode cX0_init 4 = .ok (.aload_n 0, 1) := by decide +kernel
theorem dX0_init_5 : decode cX0_init 5 = .ok (.new 11, 3) := by decide +kernel
theorem dX0_init_8 : decode cX0_init 8 = .ok (.dup, 1) := by decide +kernel
theorem dX0_init_9 : decode cX0_init 9 = .ok (.invokespecial 13, 3) := by decide +kernel
theorem dX0_init_12 : decode cX0_init 12 = .ok (.putfield 14, 3) := by decide +kernel
theorem dX0_init_15 : decode cX0_init 15 = .ok (.aload_n 0, 1) := by decide +kernel
theorem dX0_init_16 : decode cX0_init 16 = .ok (.sipush 1024, 3) := by decide +kernel
theorem dX0_init_19 : decode cX0_init 19 = .ok (.newarray .int, 2) := by decide +kernel
theorem dX0_init_21 : decode cX0_init 21 = .ok (.putfield 18, 3) := by decide +kernel
theorem dX0_init_24 : decode cX0_init 24 = .ok (.aload_n 0, 1) := by decide +kernel
theorem dX0_init_25 : decode cX0_init 25 = .ok (.sipush 1025, 3) := by decide +kernel
theorem dX0_init_28 : decode cX0_init 28 = .ok (.newarray .int, 2) := by decide +kernel
theorem dX0_init_30 : decode cX0_init 30 = .ok (.putfield 22, 3) := by decide +kernel
theorem dX0_init_33 : decode cX0_init 33 = .ok (.aload_n 0, 1) := by decide +kernel
theorem dX0_init_34 : decode cX0_init 34 = .ok (.bipush 6, 2) := by decide +kernel
theorem dX0_init_36 : decode cX0_init 36 = .ok (.newarray .int, 2) := by decide +kernel
theorem dX0_init_38 : decode cX0_init 38 = .ok (.putfield 25, 3) := by decide +kernel
theorem dX0_init_41 : decode cX0_init 41 = .ok (.aload_n 0, 1) := by decide +kernel
theorem dX0_init_42 : decode cX0_init 42 = .ok (.iconst 5, 1) := by decide +kernel
theorem dX0_init_43 : decode cX0_init 43 = .ok (.newarray .int, 2) := by decide +kernel
theorem dX0_init_45 : decode cX0_init 45 = .ok (.putfield 28, 3) := by decide +kernel
theorem dX0_init_48 : decode cX0_init 48 = .ok (.aload_n 0, 1) := by decide +kernel
theorem dX0_init_49 : decode cX0_init 49 = .ok (.iconst 0, 1) := by decide +kernel
theorem dX0_init_50 : decode cX0_init 50 = .ok (.newarray .int, 2) := by decide +kernel
theorem dX0_init_52 : decode cX0_init 52 = .ok (.putfield 31, 3) := by decide +kernel
theorem dX0_init_55 : decode cX0_init 55 = .ok (.aload_n 0, 1) := by decide +kernel
theorem dX0_init_56 : decode cX0_init 56 = .ok (.iconst 0, 1) := by decide +kernel
theorem dX0_init_57 : decode cX0_init 57 = .ok (.newarray .int, 2) := by decide +kernel
theorem dX0_init_59 : decode cX0_init 59 = .ok (.putfield 34, 3) := by decide +kernel
theorem dX0_init_62 : decode cX0_init 62 = .ok (.aload_n 0, 1) := by decide +kernel
theorem dX0_init_63 : decode cX0_init 63 = .ok (.iconst 0, 1) := by decide +kernel
theorem dX0_init_64 : decode cX0_init 64 = .ok (.newarray .int, 2) := by decide +kernel
theorem dX0_init_66 : decode cX0_init 66 = .ok (.putfield 37, 3) := by decide +kernel
theorem dX0_init_69 : decode cX0_init 69 = .ok (.aload_n 0, 1) := by decide +kernel
theorem dX0_init_70 : decode cX0_init 70 = .ok (.aload_n 1, 1) := by decide +kernel
theorem dX0_init_71 : decode cX0_init 71 = .ok (.putfield 40, 3) := by decide +kernel
theorem dX0_init_74 : decode cX0_init 74 = .ok (.aload_n 0, 1) := by decide +kernel
theorem dX0_init_75 : decode cX0_init 75 = .ok (.aload_n 2, 1) := by decide +kernel
theorem dX0_init_76 : decode cX0_init 76 = .ok (.putfield 44, 3) := by decide +kernel
theorem dX0_init_79 : decode cX0_init 79 = .ok (.aload_n 0, 1) := by decide +kernel
theorem dX0_init_80 : decode cX0_init 80 = .ok (.aload_n 3, 1) := by decide +kernel
theorem dX0_init_81 : decode cX0_init 81 = .ok (.putfield 48, 3) := by decide +kernel
theorem dX0_init_84 : decode cX0_init 84 = .ok (.return_, 1) := by decide +kernel
set_option maxRecDepth 20000 in
theorem moX0_init_66 {o : Hp} {F : Nat} {h : Hp} {x0 : Nat} {x1 : Nat} {x2 : Nat} {x3 : Nat} {t0 : Nat} {t1 : Nat} (hE : sX0_init_66 F h x0 x1 x2 x3 t0 t1 = some o) : Le h o := by
  obtain ⟨h_1, eh_1, hE⟩ := nm_e2 hE
  refine (le_R eh_1).tr ?_
  obtain ⟨h_2, eh_2, hE⟩ := nm_e2 hE
  refine (le_R eh_2).tr ?_
  obtain ⟨h_3, eh_3, hE⟩ := nm_e2 hE
  refine (le_R eh_3).tr ?_
  obtain ⟨h_4, eh_4, hE⟩ := nm_e2 hE
  refine (le_R eh_4).tr ?_
  exact le_some1 hE
set_option maxRecDepth 20000 in
theorem moX0_init_59 {o : Hp} {F : Nat} {h : Hp} {x0 : Nat} {x1 : Nat} {x2 : Nat} {x3 : Nat} {t0 : Nat} {t1 : Nat} (hE : sX0_init_59 F h x0 x1 x2 x3 t0 t1 = some o) : Le h o := by
  obtain ⟨h_1, eh_1, hE⟩ := nm_e2 hE
  refine (le_R eh_1).tr ?_
  obtain ⟨a_2, ea_2, hE⟩ := nm_e2 hE
  obtain ⟨h_3, eh_3, hE⟩ := nm_e2 hE
  refine (le_C eh_3).tr ?_
  exact moX0_init_66 hE
set_option maxRecDepth 20000 in
theorem moX0_init_52 {o : Hp} {F : Nat} {h : Hp} {x0 : Nat} {x1 : Nat} {x2 : Nat} {x3 : Nat} {t0 : Nat} {t1 : Nat} (hE : sX0_init_52 F h x0 x1 x2 x3 t0 t1 = some o) : Le h o := by
  obtain ⟨h_1, eh_1, hE⟩ := nm_e2 hE
  refine (le_R eh_1).tr ?_
  obtain ⟨a_2, ea_2, hE⟩ := nm_e2 hE
  obtain ⟨h_3, eh_3, hE⟩ := nm_e2 hE
  refine (le_C eh_3).tr ?_
  exact moX0_init_59 hE
set_option maxRecDepth 20000 in
theorem moX0_init_45 {o : Hp} {F : Nat} {h : Hp} {x0 : Nat} {x1 : Nat} {x2 : Nat} {x3 : Nat} {t0 : Nat} {t1 : Nat} (hE : sX0_init_45 F h x0 x1 x2 x3 t0 t1 = some o) : Le h o := by
  obtain ⟨h_1, eh_1, hE⟩ := nm_e2 hE
  refine (le_R eh_1).tr ?_
  obtain ⟨a_2, ea_2, hE⟩ := nm_e2 hE
  obtain ⟨h_3, eh_3, hE⟩ := nm_e2 hE
  refine (le_C eh_3).tr ?_
  exact moX0_init_52 hE
set_option maxRecDepth 20000 in
theorem moX0_init_38 {o : Hp} {F : Nat} {h : Hp} {x0 : Nat} {x1 : Nat} {x2 : Nat} {x3 : Nat} {t0 : Nat} {t1 : Nat} (hE : sX0_init_38 F h x0 x1 x2 x3 t0 t1 = some o) : Le h o := by
  obtain ⟨h_1, eh_1, hE⟩ := nm_e2 hE
  refine (le_R eh_1).tr ?_
  obtain ⟨a_2, ea_2, hE⟩ := nm_e2 hE
  obtain ⟨h_3, eh_3, hE⟩ := nm_e2 hE
  refine (le_C eh_3).tr ?_
  exact moX0_init_45 hE
set_option maxRecDepth 20000 in
theorem moX0_init_30 {o : Hp} {F : Nat} {h : Hp} {x0 : Nat} {x1 : Nat} {x2 : Nat} {x3 : Nat} {t0 : Nat} {t1 : Nat} (hE : sX0_init_30 F h x0 x1 x2 x3 t0 t1 = some o) : Le h o := by
  obtain ⟨h_1, eh_1, hE⟩ := nm_e2 hE
  refine (le_R eh_1).tr ?_
  obtain ⟨a_2, ea_2, hE⟩ := nm_e2 hE
  obtain ⟨h_3, eh_3, hE⟩ := nm_e2 hE
  refine (le_C eh_3).tr ?_
  exact moX0_init_38 hE
set_option maxRecDepth 20000 in
theorem moX0_init_21 {o : Hp} {F : Nat} {h : Hp} {x0 : Nat} {x1 : Nat} {x2 : Nat} {x3 : Nat} {t0 : Nat} {t1 : Nat} (hE : sX0_init_21 F h x0 x1 x2 x3 t0 t1 = some o) : Le h o := by
  obtain ⟨h_1, eh_1, hE⟩ := nm_e2 hE
  refine (le_R eh_1).tr ?_
  obtain ⟨a_2, ea_2, hE⟩ := nm_e2 hE
  obtain ⟨h_3, eh_3, hE⟩ := nm_e2 hE
  refine (le_C eh_3).tr ?_
  exact moX0_init_30 hE
set_option maxRecDepth 20000 in
theorem moX0_init_12 {o : Hp} {F : Nat} {h : Hp} {x0 : Nat} {x1 : Nat} {x2 : Nat} {x3 : Nat} {t0 : Nat} {t1 : Nat} (hE : sX0_init_12 F h x0 x1 x2 x3 t0 t1 = some o) : Le h o := by
  obtain ⟨h_1, eh_1, hE⟩ := nm_e2 hE
  refine (le_R eh_1).tr ?_
  obtain ⟨a_2, ea_2, hE⟩ := nm_e2 hE
  obtain ⟨h_3, eh_3, hE⟩ := nm_e2 hE
  refine (le_C eh_3).tr ?_
  exact moX0_init_21 hE
set_option maxRecDepth 20000 in
theorem moX0_init_8 {o : Hp} {F : Nat} {h : Hp} {x0 : Nat} {x1 : Nat} {x2 : Nat} {x3 : Nat} {t0 : Nat} {t1 : Nat} (hE : sX0_init_8 F h x0 x1 x2 x3 t0 t1 = some o) : Le h o := by
  obtain ⟨o_1, eo_1, hE⟩ := cl_e hE
  refine (moX3_init eo_1).tr ?_
  exact moX0_init_12 hE
set_option maxRecDepth 20000 in
theorem moX0_init {o : Hp} {F : Nat} {h : Hp} {x0 : Nat} {x1 : Nat} {x2 : Nat} {x3 : Nat} (hE : sX0_init F h x0 x1 x2 x3 = some o) : Le h o := by
  obtain ⟨a_1, ea_1, hE⟩ := nm_e2 hE
  obtain ⟨h_2, eh_2, hE⟩ := nm_e2 hE
  refine (le_C eh_2).tr ?_
  exact moX0_init_8 hE
set_option maxRecDepth 20000 in
theorem bX0_init_66 {p : Program} {l : Launch} {e : Env} {s : State} {m : MethodId} {args : Array Value} {below : List Frame} {meth : Method} {c : Code} {X : Ec} {h0 : Hp} {o : Hp} {F : Nat} (C : Cx X p s m args meth c RX0 cX0_init 4 none "<init>") {h : Hp} {x0 : Nat} {x1 : Nat} {x2 : Nat} {x3 : Nat} {t0 : Nat} {t1 : Nat} {H : Heap} {locs : List Loc} (k_x0 : hK h x0 = 0) (k_x1 : hK h x1 = 1) (k_x2 : hK h x2 = 10) (k_x3 : hK h x3 = 5) (k_t0 : hK h t0 = 17) (k_t1 : hK h t1 = 0) (hkl : Kl h0 h) (hW : Wx X h H) (hZ : va_S (aA (eB X)) s.heap H locs) (ls : Array Slot) (hl : lv_has ls 4 [(0, .ref x0), (1, .ref x1), (2, .ref x2), (3, .ref x3)]) (hE : sX0_init_66 F h x0 x1 x2 x3 t0 t1 = some o) : W p l e (rmA 2 43 h0 o) s m args below meth c H locs (hS h - hS h0) (hL h - hL h0) (MQ below (QVA X h0 o) args s (hS o - hS h0) (hL o - hL h0) (aA (eB X))) (F0 m 66 ls [.ref t0, .ref t1]) := by
  obtain ⟨h_1, eh_1, hE⟩ := nm_e2 hE
  refine pf_X0_37 C hW hZ k_t1 k_t0 eh_1 dX0_init_66 (fun _ _ hW km hZ => ?_)
  replace hkl := hkl.tr km.l
  refine x_wc km ?_
  replace k_x0 := km.at k_x0 (by decide)
  replace k_x1 := km.at k_x1 (by decide)
  replace k_x2 := km.at k_x2 (by decide)
  replace k_x3 := km.at k_x3 (by decide)
  refine lv_aload_n C.1 C.2.1 dX0_init_69 rfl (lv_at hl 0 rfl) ?_
  refine lv_aload_n C.1 C.2.1 dX0_init_70 rfl (lv_at hl 1 rfl) ?_
  obtain ⟨h_2, eh_2, hE⟩ := nm_e2 hE
  refine pf_X0_40 C hW hZ rfl k_x0 k_x1 eh_2 dX0_init_71 (fun _ _ hW km hZ => ?_)
  replace hkl := hkl.tr km.l
  refine x_wc km ?_
  replace k_x0 := km.at k_x0 (by decide)
  replace k_x1 := km.at k_x1 (by decide)
  replace k_x2 := km.at k_x2 (by decide)
  replace k_x3 := km.at k_x3 (by decide)
  refine lv_aload_n C.1 C.2.1 dX0_init_74 rfl (lv_at hl 0 rfl) ?_
  refine lv_aload_n C.1 C.2.1 dX0_init_75 rfl (lv_at hl 2 rfl) ?_
  obtain ⟨h_3, eh_3, hE⟩ := nm_e2 hE
  refine pf_X0_44 C hW hZ rfl k_x0 k_x2 eh_3 dX0_init_76 (fun _ _ hW km hZ => ?_)
  replace hkl := hkl.tr km.l
  refine x_wc km ?_
  replace k_x0 := km.at k_x0 (by decide)
  replace k_x1 := km.at k_x1 (by decide)
  replace k_x2 := km.at k_x2 (by decide)
  replace k_x3 := km.at k_x3 (by decide)
  refine lv_aload_n C.1 C.2.1 dX0_init_79 rfl (lv_at hl 0 rfl) ?_
  refine lv_aload_n C.1 C.2.1 dX0_init_80 rfl (lv_at hl 3 rfl) ?_
  obtain ⟨h_4, eh_4, hE⟩ := nm_e2 hE
  refine pf_X0_48 C hW hZ rfl k_x0 k_x3 eh_4 dX0_init_81 (fun _ _ hW km hZ => ?_)
  replace hkl := hkl.tr km.l
  refine x_wc km ?_
  replace k_x0 := km.at k_x0 (by decide)
  replace k_x1 := km.at k_x1 (by decide)
  replace k_x2 := km.at k_x2 (by decide)
  replace k_x3 := km.at k_x3 (by decide)
  exact x_vretA C rfl hW hZ hkl hE dX0_init_84
set_option maxRecDepth 20000 in
theorem bX0_init_59 {p : Program} {l : Launch} {e : Env} {s : State} {m : MethodId} {args : Array Value} {below : List Frame} {meth : Method} {c : Code} {X : Ec} {h0 : Hp} {o : Hp} {F : Nat} (C : Cx X p s m args meth c RX0 cX0_init 4 none "<init>") {h : Hp} {x0 : Nat} {x1 : Nat} {x2 : Nat} {x3 : Nat} {t0 : Nat} {t1 : Nat} {H : Heap} {locs : List Loc} (k_x0 : hK h x0 = 0) (k_x1 : hK h x1 = 1) (k_x2 : hK h x2 = 10) (k_x3 : hK h x3 = 5) (k_t0 : hK h t0 = 17) (k_t1 : hK h t1 = 0) (hkl : Kl h0 h) (hW : Wx X h H) (hZ : va_S (aA (eB X)) s.heap H locs) (ls : Array Slot) (hl : lv_has ls 4 [(0, .ref x0), (1, .ref x1), (2, .ref x2), (3, .ref x3)]) (hE : sX0_init_59 F h x0 x1 x2 x3 t0 t1 = some o) : W p l e (rmA 2 43 h0 o) s m args below meth c H locs (hS h - hS h0) (hL h - hL h0) (MQ below (QVA X h0 o) args s (hS o - hS h0) (hL o - hL h0) (aA (eB X))) (F0 m 59 ls [.ref t0, .ref t1]) := by
  obtain ⟨h_1, eh_1, hE⟩ := nm_e2 hE
  refine pf_X0_34 C hW hZ k_t1 k_t0 eh_1 dX0_init_59 (fun _ _ hW km hZ => ?_)
  replace hkl := hkl.tr km.l
  refine x_wc km ?_
  replace k_x0 := km.at k_x0 (by decide)
  replace k_x1 := km.at k_x1 (by decide)
  replace k_x2 := km.at k_x2 (by decide)
  replace k_x3 := km.at k_x3 (by decide)
  refine lv_aload_n C.1 C.2.1 dX0_init_62 rfl (lv_at hl 0 rfl) ?_
  refine lv_iconst (v := (0 : Int32)) C.1 C.2.1 dX0_init_63 (by decide) ?_
  obtain ⟨a_2, ea_2, hE⟩ := nm_e2 hE
  obtain ⟨h_3, eh_3, hE⟩ := nm_e2 hE
  refine y_newa (k := 17) (ty := .int) (t0 := 1) C hW hZ hkl (moX0_init_66 hE) ⟨rfl, rfl⟩ (by decide) (by decide) rfl rfl (by intro C hC; cases hC) hdef_17 m_54 (by decide) (by decide) eh_3 dX0_init_64 (fun _ hW km k_a_2 hZ => ?_)
  replace hkl := hkl.tr km
  refine x_nmA ea_2 ?_
  rw [← ea_2] at k_a_2
  replace k_x0 := km.at k_x0 (by decide)
  replace k_x1 := km.at k_x1 (by decide)
  replace k_x2 := km.at k_x2 (by decide)
  replace k_x3 := km.at k_x3 (by decide)
  exact bX0_init_66 C k_x0 k_x1 k_x2 k_x3 k_a_2 k_x0 hkl hW hZ _ (lv_sub hl [0, 1, 2, 3] rfl) hE
set_option maxRecDepth 20000 in
theorem bX0_init_52 {p : Program} {l : Launch} {e : Env} {s : State} {m : MethodId} {args : Array Value} {below : List Frame} {meth : Method} {c : Code} {X : Ec} {h0 : Hp} {o : Hp} {F : Nat} (C : Cx X p s m args meth c RX0 cX0_init 4 none "<init>") {h : Hp} {x0 : Nat} {x1 : Nat} {x2 : Nat} {x3 : Nat} {t0 : Nat} {t1 : Nat} {H : Heap} {locs : List Loc} (k_x0 : hK h x0 = 0) (k_x1 : hK h x1 = 1) (k_x2 : hK h x2 = 10) (k_x3 : hK h x3 = 5) (k_t0 : hK h t0 = 17) (k_t1 : hK h t1 = 0) (hkl : Kl h0 h) (hW : Wx X h H) (hZ : va_S (aA (eB X)) s.heap H locs) (ls : Array Slot) (hl : lv_has ls 4 [(0, .ref x0), (1, .ref x1), (2, .ref x2), (3, .ref x3)]) (hE : sX0_init_52 F h x0 x1 x2 x3 t0 t1 = some o) : W p l e (rmA 2 43 h0 o) s m args below meth c H locs (hS h - hS h0) (hL h - hL h0) (MQ below (QVA X h0 o) args s (hS o - hS h0) (hL o - hL h0) (aA (eB X))) (F0 m 52 ls [.ref t0, .ref t1]) := by
  obtain ⟨h_1, eh_1, hE⟩ := nm_e2 hE
  refine pf_X0_31 C hW hZ k_t1 k_t0 eh_1 dX0_init_52 (fun _ _ hW km hZ => ?_)
  replace hkl := hkl.tr km.l
  refine x_wc km ?_
  replace k_x0 := km.at k_x0 (by decide)
  replace k_x1 := km.at k_x1 (by decide)
  replace k_x2 := km.at k_x2 (by decide)
  replace k_x3 := km.at k_x3 (by decide)
  refine lv_aload_n C.1 C.2.1 dX0_init_55 rfl (lv_at hl 0 rfl) ?_
  refine lv_iconst (v := (0 : Int32)) C.1 C.2.1 dX0_init_56 (by decide) ?_
  obtain ⟨a_2, ea_2, hE⟩ := nm_e2 hE
  obtain ⟨h_3, eh_3, hE⟩ := nm_e2 hE
  refine y_newa (k := 17) (ty := .int) (t0 := 1) C hW hZ hkl (moX0_init_59 hE) ⟨rfl, rfl⟩ (by decide) (by decide) rfl rfl (by intro C hC; cases hC) hdef_17 m_54 (by decide) (by decide) eh_3 dX0_init_57 (fun _ hW km k_a_2 hZ => ?_)
  replace hkl := hkl.tr km
  refine x_nmA ea_2 ?_
  rw [← ea_2] at k_a_2
  replace k_x0 := km.at k_x0 (by decide)
  replace k_x1 := km.at k_x1 (by decide)
  replace k_x2 := km.at k_x2 (by decide)
  replace k_x3 := km.at k_x3 (by decide)
  exact bX0_init_59 C k_x0 k_x1 k_x2 k_x3 k_a_2 k_x0 hkl hW hZ _ (lv_sub hl [0, 1, 2, 3] rfl) hE
set_option maxRecDepth 20000 in
theorem bX0_init_45 {p : Program} {l : Launch} {e : Env} {s : State} {m : MethodId} {args : Array Value} {below : List Frame} {meth : Method} {c : Code} {X : Ec} {h0 : Hp} {o : Hp} {F : Nat} (C : Cx X p s m args meth c RX0 cX0_init 4 none "<init>") {h : Hp} {x0 : Nat} {x1 : Nat} {x2 : Nat} {x3 : Nat} {t0 : Nat} {t1 : Nat} {H : Heap} {locs : List Loc} (k_x0 : hK h x0 = 0) (k_x1 : hK h x1 = 1) (k_x2 : hK h x2 = 10) (k_x3 : hK h x3 = 5) (k_t0 : hK h t0 = 17) (k_t1 : hK h t1 = 0) (hkl : Kl h0 h) (hW : Wx X h H) (hZ : va_S (aA (eB X)) s.heap H locs) (ls : Array Slot) (hl : lv_has ls 4 [(0, .ref x0), (1, .ref x1), (2, .ref x2), (3, .ref x3)]) (hE : sX0_init_45 F h x0 x1 x2 x3 t0 t1 = some o) : W p l e (rmA 2 43 h0 o) s m args below meth c H locs (hS h - hS h0) (hL h - hL h0) (MQ below (QVA X h0 o) args s (hS o - hS h0) (hL o - hL h0) (aA (eB X))) (F0 m 45 ls [.ref t0, .ref t1]) := by
  obtain ⟨h_1, eh_1, hE⟩ := nm_e2 hE
  refine pf_X0_28 C hW hZ rfl k_t1 k_t0 eh_1 dX0_init_45 (fun _ _ hW km hZ => ?_)
  replace hkl := hkl.tr km.l
  refine x_wc km ?_
  replace k_x0 := km.at k_x0 (by decide)
  replace k_x1 := km.at k_x1 (by decide)
  replace k_x2 := km.at k_x2 (by decide)
  replace k_x3 := km.at k_x3 (by decide)
  refine lv_aload_n C.1 C.2.1 dX0_init_48 rfl (lv_at hl 0 rfl) ?_
  refine lv_iconst (v := (0 : Int32)) C.1 C.2.1 dX0_init_49 (by decide) ?_
  obtain ⟨a_2, ea_2, hE⟩ := nm_e2 hE
  obtain ⟨h_3, eh_3, hE⟩ := nm_e2 hE
  refine y_newa (k := 17) (ty := .int) (t0 := 1) C hW hZ hkl (moX0_init_52 hE) ⟨rfl, rfl⟩ (by decide) (by decide) rfl rfl (by intro C hC; cases hC) hdef_17 m_54 (by decide) (by decide) eh_3 dX0_init_50 (fun _ hW km k_a_2 hZ => ?_)
  replace hkl := hkl.tr km
  refine x_nmA ea_2 ?_
  rw [← ea_2] at k_a_2
  replace k_x0 := km.at k_x0 (by decide)
  replace k_x1 := km.at k_x1 (by decide)
  replace k_x2 := km.at k_x2 (by decide)
  replace k_x3 := km.at k_x3 (by decide)
  exact bX0_init_52 C k_x0 k_x1 k_x2 k_x3 k_a_2 k_x0 hkl hW hZ _ (lv_sub hl [0, 1, 2, 3] rfl) hE
set_option maxRecDepth 20000 in
theorem bX0_init_38 {p : Program} {l : Launch} {e : Env} {s : State} {m : MethodId} {args : Array Value} {below : List Frame} {meth : Method} {c : Code} {X : Ec} {h0 : Hp} {o : Hp} {F : Nat} (C : Cx X p s m args meth c RX0 cX0_init 4 none "<init>") {h : Hp} {x0 : Nat} {x1 : Nat} {x2 : Nat} {x3 : Nat} {t0 : Nat} {t1 : Nat} {H : Heap} {locs : List Loc} (k_x0 : hK h x0 = 0) (k_x1 : hK h x1 = 1) (k_x2 : hK h x2 = 10) (k_x3 : hK h x3 = 5) (k_t0 : hK h t0 = 17) (k_t1 : hK h t1 = 0) (hkl : Kl h0 h) (hW : Wx X h H) (hZ : va_S (aA (eB X)) s.heap H locs) (ls : Array Slot) (hl : lv_has ls 4 [(0, .ref x0), (1, .ref x1), (2, .ref x2), (3, .ref x3)]) (hE : sX0_init_38 F h x0 x1 x2 x3 t0 t1 = some o) : W p l e (rmA 2 43 h0 o) s m args below meth c H locs (hS h - hS h0) (hL h - hL h0) (MQ below (QVA X h0 o) args s (hS o - hS h0) (hL o - hL h0) (aA (eB X))) (F0 m 38 ls [.ref t0, .ref t1]) := by
  obtain ⟨h_1, eh_1, hE⟩ := nm_e2 hE
  refine pf_X0_25 C hW hZ rfl k_t1 k_t0 eh_1 dX0_init_38 (fun _ _ hW km hZ => ?_)
  replace hkl := hkl.tr km.l
  refine x_wc km ?_
  replace k_x0 := km.at k_x0 (by decide)
  replace k_x1 := km.at k_x1 (by decide)
  replace k_x2 := km.at k_x2 (by decide)
  replace k_x3 := km.at k_x3 (by decide)
  refine lv_aload_n C.1 C.2.1 dX0_init_41 rfl (lv_at hl 0 rfl) ?_
  refine lv_iconst (v := (5 : Int32)) C.1 C.2.1 dX0_init_42 (by decide) ?_
  obtain ⟨a_2, ea_2, hE⟩ := nm_e2 hE
  obtain ⟨h_3, eh_3, hE⟩ := nm_e2 hE
  refine y_newa (k := 17) (ty := .int) (t0 := 1) C hW hZ hkl (moX0_init_45 hE) ⟨rfl, rfl⟩ (by decide) (by decide) rfl rfl (by intro C hC; cases hC) hdef_17 m_54 (by decide) (by decide) eh_3 dX0_init_43 (fun _ hW km k_a_2 hZ => ?_)
  replace hkl := hkl.tr km
  refine x_nmA ea_2 ?_
  rw [← ea_2] at k_a_2
  replace k_x0 := km.at k_x0 (by decide)
  replace k_x1 := km.at k_x1 (by decide)
  replace k_x2 := km.at k_x2 (by decide)
  replace k_x3 := km.at k_x3 (by decide)
  exact bX0_init_45 C k_x0 k_x1 k_x2 k_x3 k_a_2 k_x0 hkl hW hZ _ (lv_sub hl [0, 1, 2, 3] rfl) hE
set_option maxRecDepth 20000 in
theorem bX0_init_30 {p : Program} {l : Launch} {e : Env} {s : State} {m : MethodId} {args : Array Value} {below : List Frame} {meth : Method} {c : Code} {X : Ec} {h0 : Hp} {o : Hp} {F : Nat} (C : Cx X p s m args meth c RX0 cX0_init 4 none "<init>") {h : Hp} {x0 : Nat} {x1 : Nat} {x2 : Nat} {x3 : Nat} {t0 : Nat} {t1 : Nat} {H : Heap} {locs : List Loc} (k_x0 : hK h x0 = 0) (k_x1 : hK h x1 = 1) (k_x2 : hK h x2 = 10) (k_x3 : hK h x3 = 5) (k_t0 : hK h t0 = 17) (k_t1 : hK h t1 = 0) (hkl : Kl h0 h) (hW : Wx X h H) (hZ : va_S (aA (eB X)) s.heap H locs) (ls : Array Slot) (hl : lv_has ls 4 [(0, .ref x0), (1, .ref x1), (2, .ref x2), (3, .ref x3)]) (hE : sX0_init_30 F h x0 x1 x2 x3 t0 t1 = some o) : W p l e (rmA 2 43 h0 o) s m args below meth c H locs (hS h - hS h0) (hL h - hL h0) (MQ below (QVA X h0 o) args s (hS o - hS h0) (hL o - hL h0) (aA (eB X))) (F0 m 30 ls [.ref t0, .ref t1]) := by
  obtain ⟨h_1, eh_1, hE⟩ := nm_e2 hE
  refine pf_X0_22 C hW hZ rfl k_t1 k_t0 eh_1 dX0_init_30 (fun _ _ hW km hZ => ?_)
  replace hkl := hkl.tr km.l
  refine x_wc km ?_
  replace k_x0 := km.at k_x0 (by decide)
  replace k_x1 := km.at k_x1 (by decide)
  replace k_x2 := km.at k_x2 (by decide)
  replace k_x3 := km.at k_x3 (by decide)
  refine lv_aload_n C.1 C.2.1 dX0_init_33 rfl (lv_at hl 0 rfl) ?_
  refine lv_bipush (v := (6 : Int32)) C.1 C.2.1 dX0_init_34 (by decide) ?_
  obtain ⟨a_2, ea_2, hE⟩ := nm_e2 hE
  obtain ⟨h_3, eh_3, hE⟩ := nm_e2 hE
  refine y_newa (k := 17) (ty := .int) (t0 := 1) C hW hZ hkl (moX0_init_38 hE) ⟨rfl, rfl⟩ (by decide) (by decide) rfl rfl (by intro C hC; cases hC) hdef_17 m_54 (by decide) (by decide) eh_3 dX0_init_36 (fun _ hW km k_a_2 hZ => ?_)
  replace hkl := hkl.tr km
  refine x_nmA ea_2 ?_
  rw [← ea_2] at k_a_2
  replace k_x0 := km.at k_x0 (by decide)
  replace k_x1 := km.at k_x1 (by decide)
  replace k_x2 := km.at k_x2 (by decide)
  replace k_x3 := km.at k_x3 (by decide)
  exact bX0_init_38 C k_x0 k_x1 k_x2 k_x3 k_a_2 k_x0 hkl hW hZ _ (lv_sub hl [0, 1, 2, 3] rfl) hE
set_option maxRecDepth 20000 in
theorem bX0_init_21 {p : Program} {l : Launch} {e : Env} {s : State} {m : MethodId} {args : Array Value} {below : List Frame} {meth : Method} {c : Code} {X : Ec} {h0 : Hp} {o : Hp} {F : Nat} (C : Cx X p s m args meth c RX0 cX0_init 4 none "<init>") {h : Hp} {x0 : Nat} {x1 : Nat} {x2 : Nat} {x3 : Nat} {t0 : Nat} {t1 : Nat} {H : Heap} {locs : List Loc} (k_x0 : hK h x0 = 0) (k_x1 : hK h x1 = 1) (k_x2 : hK h x2 = 10) (k_x3 : hK h x3 = 5) (k_t0 : hK h t0 = 17) (k_t1 : hK h t1 = 0) (hkl : Kl h0 h) (hW : Wx X h H) (hZ : va_S (aA (eB X)) s.heap H locs) (ls : Array Slot) (hl : lv_has ls 4 [(0, .ref x0), (1, .ref x1), (2, .ref x2), (3, .ref x3)]) (hE : sX0_init_21 F h x0 x1 x2 x3 t0 t1 = some o) : W p l e (rmA 2 43 h0 o) s m args below meth c H locs (hS h - hS h0) (hL h - hL h0) (MQ below (QVA X h0 o) args s (hS o - hS h0) (hL o - hL h0) (aA (eB X))) (F0 m 21 ls [.ref t0, .ref t1]) := by
  obtain ⟨h_1, eh_1, hE⟩ := nm_e2 hE
  refine pf_X0_18 C hW hZ rfl k_t1 k_t0 eh_1 dX0_init_21 (fun _ _ hW km hZ => ?_)
  replace hkl := hkl.tr km.l
  refine x_wc km ?_
  replace k_x0 := km.at k_x0 (by decide)
  replace k_x1 := km.at k_x1 (by decide)
  replace k_x2 := km.at k_x2 (by decide)
  replace k_x3 := km.at k_x3 (by decide)
  refine lv_aload_n C.1 C.2.1 dX0_init_24 rfl (lv_at hl 0 rfl) ?_
  refine lv_sipush (v := (1025 : Int32)) C.1 C.2.1 dX0_init_25 (by decide) ?_
  obtain ⟨a_2, ea_2, hE⟩ := nm_e2 hE
  obtain ⟨h_3, eh_3, hE⟩ := nm_e2 hE
  refine y_newa (k := 17) (ty := .int) (t0 := 1) C hW hZ hkl (moX0_init_30 hE) ⟨rfl, rfl⟩ (by decide) (by decide) rfl rfl (by intro C hC; cases hC) hdef_17 m_54 (by decide) (by decide) eh_3 dX0_init_28 (fun _ hW km k_a_2 hZ => ?_)
  replace hkl := hkl.tr km
  refine x_nmA ea_2 ?_
  rw [← ea_2] at k_a_2
  replace k_x0 := km.at k_x0 (by decide)
  replace k_x1 := km.at k_x1 (by decide)
  replace k_x2 := km.at k_x2 (by decide)
  replace k_x3 := km.at k_x3 (by decide)
  exact bX0_init_30 C k_x0 k_x1 k_x2 k_x3 k_a_2 k_x0 hkl hW hZ _ (lv_sub hl [0, 1, 2, 3] rfl) hE
set_option maxRecDepth 20000 in
theorem bX0_init_12 {p : Program} {l : Launch} {e : Env} {s : State} {m : MethodId} {args : Array Value} {below : List Frame} {meth : Method} {c : Code} {X : Ec} {h0 : Hp} {o : Hp} {F : Nat} (C : Cx X p s m args meth c RX0 cX0_init 4 none "<init>") {h : Hp} {x0 : Nat} {x1 : Nat} {x2 : Nat} {x3 : Nat} {t0 : Nat} {t1 : Nat} {H : Heap} {locs : List Loc} (k_x0 : hK h x0 = 0) (k_x1 : hK h x1 = 1) (k_x2 : hK h x2 = 10) (k_x3 : hK h x3 = 5) (k_t0 : hK h t0 = 3) (k_t1 : hK h t1 = 0) (hkl : Kl h0 h) (hW : Wx X h H) (hZ : va_S (aA (eB X)) s.heap H locs) (ls : Array Slot) (hl : lv_has ls 4 [(0, .ref x0), (1, .ref x1), (2, .ref x2), (3, .ref x3)]) (hE : sX0_init_12 F h x0 x1 x2 x3 t0 t1 = some o) : W p l e (rmA 2 43 h0 o) s m args below meth c H locs (hS h - hS h0) (hL h - hL h0) (MQ below (QVA X h0 o) args s (hS o - hS h0) (hL o - hL h0) (aA (eB X))) (F0 m 12 ls [.ref t0, .ref t1]) := by
  obtain ⟨h_1, eh_1, hE⟩ := nm_e2 hE
  refine pf_X0_14 C hW hZ rfl k_t1 k_t0 eh_1 dX0_init_12 (fun _ _ hW km hZ => ?_)
  replace hkl := hkl.tr km.l
  refine x_wc km ?_
  replace k_x0 := km.at k_x0 (by decide)
  replace k_x1 := km.at k_x1 (by decide)
  replace k_x2 := km.at k_x2 (by decide)
  replace k_x3 := km.at k_x3 (by decide)
  refine lv_aload_n C.1 C.2.1 dX0_init_15 rfl (lv_at hl 0 rfl) ?_
  refine lv_sipush (v := (1024 : Int32)) C.1 C.2.1 dX0_init_16 (by decide) ?_
  obtain ⟨a_2, ea_2, hE⟩ := nm_e2 hE
  obtain ⟨h_3, eh_3, hE⟩ := nm_e2 hE
  refine y_newa (k := 17) (ty := .int) (t0 := 1) C hW hZ hkl (moX0_init_21 hE) ⟨rfl, rfl⟩ (by decide) (by decide) rfl rfl (by intro C hC; cases hC) hdef_17 m_54 (by decide) (by decide) eh_3 dX0_init_19 (fun _ hW km k_a_2 hZ => ?_)
  replace hkl := hkl.tr km
  refine x_nmA ea_2 ?_
  rw [← ea_2] at k_a_2
  replace k_x0 := km.at k_x0 (by decide)
  replace k_x1 := km.at k_x1 (by decide)
  replace k_x2 := km.at k_x2 (by decide)
  replace k_x3 := km.at k_x3 (by decide)
  exact bX0_init_21 C k_x0 k_x1 k_x2 k_x3 k_a_2 k_x0 hkl hW hZ _ (lv_sub hl [0, 1, 2, 3] rfl) hE
set_option maxRecDepth 20000 in
theorem bX0_init_8 {p : Program} {l : Launch} {e : Env} {s : State} {m : MethodId} {args : Array Value} {below : List Frame} {meth : Method} {c : Code} {X : Ec} {h0 : Hp} {o : Hp} {F : Nat} (C : Cx X p s m args meth c RX0 cX0_init 4 none "<init>") {h : Hp} {x0 : Nat} {x1 : Nat} {x2 : Nat} {x3 : Nat} {t0 : Nat} {t1 : Nat} {H : Heap} {locs : List Loc} (k_x0 : hK h x0 = 0) (k_x1 : hK h x1 = 1) (k_x2 : hK h x2 = 10) (k_x3 : hK h x3 = 5) (k_t0 : hK h t0 = 3) (k_t1 : hK h t1 = 0) (hkl : Kl h0 h) (hW : Wx X h H) (hZ : va_S (aA (eB X)) s.heap H locs) (ls : Array Slot) (hl : lv_has ls 4 [(0, .ref x0), (1, .ref x1), (2, .ref x2), (3, .ref x3)]) (hE : sX0_init_8 F h x0 x1 x2 x3 t0 t1 = some o) : W p l e (rmA 2 43 h0 o) s m args below meth c H locs (hS h - hS h0) (hL h - hL h0) (MQ below (QVA X h0 o) args s (hS o - hS h0) (hL o - hL h0) (aA (eB X))) (F0 m 8 ls [.ref t0, .ref t1]) := by
  refine lv_dup C.1 C.2.1 dX0_init_8 rfl ?_
  obtain ⟨o_1, eo_1, hE⟩ := cl_e hE
  have m1 := moX3_init eo_1
  have m2 := moX0_init_12 hE
  refine x_kVA (o := o_1) hkl (z_runI (As := []) (rest := [.ref t0, .ref t1]) C (ct_X3_init l X F k_t0 eo_1) ci_X0_13 hW hZ rfl hl.1 (Nat.le_of_ble_eq_true rfl) rfl dX0_init_9 ⟨Nat.le_of_ble_eq_true rfl, Nat.le_of_ble_eq_true rfl⟩ (rm_ok hkl m1 m2)) hZ (fun _ _ hW km hZ => ?_)
  replace hkl := hkl.tr km
  replace k_x0 := km.at k_x0 (by decide)
  replace k_x1 := km.at k_x1 (by decide)
  replace k_x2 := km.at k_x2 (by decide)
  replace k_x3 := km.at k_x3 (by decide)
  replace k_t0 := km.at k_t0 (by decide)
  replace k_t1 := km.at k_t1 (by decide)
  exact bX0_init_12 C k_x0 k_x1 k_x2 k_x3 k_t0 k_t1 hkl hW hZ _ (lv_sub hl [0, 1, 2, 3] rfl) hE
set_option maxRecDepth 20000 in
theorem ct_X0_init (l : Launch) (X : Ec) (F : Nat) {h : Hp} {x0 : Nat} {x1 : Nat} {x2 : Nat} {x3 : Nat} {o : Hp} (k_x0 : hK h x0 = 0) (k_x1 : hK h x1 = 1) (k_x2 : hK h x2 = 10) (k_x3 : hK h x3 = 5) (hE : sX0_init F h x0 x1 x2 x3 = some o) : MetVA l yX0_init cX0_init 4 none 2 43 X [.ref x0, .ref x1, .ref x2, .ref x3] h o := by
  refine x_metA (oh := o) (by decide) (Nat.le_of_ble_eq_true rfl) ?_
  intro p e s m below meth c ls C hl hW hZ
  have hl : lv_has ls 4 [(0, .ref x0), (1, .ref x1), (2, .ref x2), (3, .ref x3)] := hl
  have hkl : Kl h h := Kl.rf h
  refine lv_aload_n C.1 C.2.1 dX0_init_0 rfl (lv_at hl 0 rfl) ?_
  refine W.objInit C.1 C.2.1 C.2.2.2.1 (C.2.2.2.2.1 _ m_454) (C.2.2.2.2.1 _ m_32) (C.2.2.2.2.1 _ m_33) rfl (by rw [C.2.2.1]; exact hl.1) rfl dX0_init_1 (Nat.le_of_ble_eq_true rfl) (Nat.le_of_ble_eq_true rfl) ?_
  refine W.eq (g2 := F0 m 4 ls []) rfl ?_
  refine lv_aload_n C.1 C.2.1 dX0_init_4 rfl (lv_at hl 0 rfl) ?_
  obtain ⟨a_1, ea_1, hE⟩ := nm_e2 hE
  obtain ⟨h_2, eh_2, hE⟩ := nm_e2 hE
  refine y_new C hW hZ hkl (moX0_init_8 hE) ⟨rfl, rfl⟩ i_X3 tyX3 tyX3_ok (by decide) rfl rfl dv_X3 m_455 m_266 m_8 eh_2 dX0_init_5 (fun _ hW km k_a_1 hZ => ?_)
  replace hkl := hkl.tr km
  refine x_nmA ea_1 ?_
  rw [← ea_1] at k_a_1
  replace k_x0 := km.at k_x0 (by decide)
  replace k_x1 := km.at k_x1 (by decide)
  replace k_x2 := km.at k_x2 (by decide)
  replace k_x3 := km.at k_x3 (by decide)
  exact bX0_init_8 C k_x0 k_x1 k_x2 k_x3 k_a_1 k_x0 hkl hW hZ _ (lv_sub hl [0, 1, 2, 3] rfl) hE
theorem dX0_with_0 : decode cX0_with 0 = .ok (.iconst 0, 1) := by decide +kernel
theorem dX0_with_1 : decode cX0_with 1 = .ok (.istore_n 2, 1) := by decide +kernel
theorem dX0_with_2 : decode cX0_with 2 = .ok (.iload_n 2, 1) := by decide +kernel
theorem dX0_with_3 : decode cX0_with 3 = .ok (.bipush 25, 2) := by decide +kernel
theorem dX0_with_5 : decode cX0_with 5 = .ok (.if_icmp .ge 30, 3) := by decide +kernel
theorem dX0_with_8 : decode cX0_with 8 = .ok (.iload_n 0, 1) := by decide +kernel
theorem dX0_with_9 : decode cX0_with 9 = .ok (.iload_n 2, 1) := by decide +kernel
theorem dX0_with_10 : decode cX0_with 10 = .ok (.ishr, 1) := by decide +kernel
theorem dX0_with_11 : decode cX0_with 11 = .ok (.bipush 31, 2) := by decide +kernel
theorem dX0_with_13 : decode cX0_with 13 = .ok (.iand, 1) := by decide +kernel
theorem dX0_with_14 : decode cX0_with 14 = .ok (.ifCond .eq 21, 3) := by decide +kernel
theorem dX0_with_17 : decode cX0_with 17 = .ok (.iload_n 0, 1) := by decide +kernel
theorem dX0_with_18 : decode cX0_with 18 = .ok (.iload_n 2, 1) := by decide +kernel
theorem dX0_with_19 : decode cX0_with 19 = .ok (.ishr, 1) := by decide +kernel
theorem dX0_with_20 : decode cX0_with 20 = .ok (.bipush 31, 2) := by decide +kernel
theorem dX0_with_22 : decode cX0_with 22 = .ok (.iand, 1) := by decide +kernel
theorem dX0_with_23 : decode cX0_with 23 = .ok (.iload_n 1, 1) := by decide +kernel
theorem dX0_with_24 : decode cX0_with 24 = .ok (.iconst 1, 1) := by decide +kernel
theorem dX0_with_25 : decode cX0_with 25 = .ok (.iadd, 1) := by decide +kernel
theorem dX0_with_26 : decode cX0_with 26 = .ok (.if_icmp .gt 9, 3) := by decide +kernel
theorem dX0_with_29 : decode cX0_with 29 = .ok (.iinc 2 5, 3) := by decide +kernel
theorem dX0_with_32 : decode cX0_with 32 = .ok (.goto (-30), 3) := by decide +kernel
theorem dX0_with_35 : decode cX0_with 35 = .ok (.iload_n 0, 1) := by decide +kernel
theorem dX0_with_36 : decode cX0_with 36 = .ok (.iconst 1, 1) := by decide +kernel
theorem dX0_with_37 : decode cX0_with 37 = .ok (.iload_n 2, 1) := by decide +kernel
theorem dX0_with_38 : decode cX0_with 38 = .ok (.ishl, 1) := by decide +kernel
theorem dX0_with_39 : decode cX0_with 39 = .ok (.iconst 1, 1) := by decide +kernel
theorem dX0_with_40 : decode cX0_with 40 = .ok (.isub, 1) := by decide +kernel
theorem dX0_with_41 : decode cX0_with 41 = .ok (.iand, 1) := by decide +kernel
theorem dX0_with_42 : decode cX0_with 42 = .ok (.istore_n 3, 1) := by decide +kernel
theorem dX0_with_43 : decode cX0_with 43 = .ok (.iload_n 3, 1) := by decide +kernel
theorem dX0_with_44 : decode cX0_with 44 = .ok (.iload_n 1, 1) := by decide +kernel
theorem dX0_with_45 : decode cX0_with 45 = .ok (.iconst 1, 1) := by decide +kernel
theorem dX0_with_46 : decode cX0_with 46 = .ok (.iadd, 1) := by decide +kernel
theorem dX0_with_47 : decode cX0_with 47 = .ok (.iload_n 2, 1) := by decide +kernel
theorem dX0_with_48 : decode cX0_with 48 = .ok (.ishl, 1) := by decide +kernel
theorem dX0_with_49 : decode cX0_with 49 = .ok (.ior, 1) := by decide +kernel
theorem dX0_with_50 : decode cX0_with 50 = .ok (.iload_n 0, 1) := by decide +kernel
theorem dX0_with_51 : decode cX0_with 51 = .ok (.iload_n 2, 1) := by decide +kernel
theorem dX0_with_52 : decode cX0_with 52 = .ok (.ishr, 1) := by decide +kernel
theorem dX0_with_53 : decode cX0_with 53 = .ok (.iload_n 2, 1) := by decide +kernel
theorem dX0_with_54 : decode cX0_with 54 = .ok (.iconst 5, 1) := by decide +kernel
theorem dX0_with_55 : decode cX0_with 55 = .ok (.iadd, 1) := by decide +kernel
theorem dX0_with_56 : decode cX0_with 56 = .ok (.ishl, 1) := by decide +kernel
theorem dX0_with_57 : decode cX0_with 57 = .ok (.ior, 1) := by decide +kernel
theorem dX0_with_58 : decode cX0_with 58 = .ok (.ireturn, 1) := by decide +kernel
set_option maxRecDepth 20000 in
theorem moX0_with_35 {o : Int32 × Hp} {F : Nat} {h : Hp} {x0 : Int32} {x1 : Int32} {x2 : Int32} (hE : sX0_with_35 F h x0 x1 x2 = some o) : Le h o.2 := by
  obtain ⟨v_1, ev_1, hE⟩ := nm_e2 hE
  exact le_some2 hE
set_option maxRecDepth 20000 in
theorem moX0_with_2 {o : Int32 × Hp} {F : Nat} : ∀ (f : Nat) {h : Hp} {x0 : Int32} {x1 : Int32} {x2 : Int32}, sX0_with_2 F f h x0 x1 x2 = some o → Le h o.2 := by
  intro f
  induction f with
  | zero =>
    intro h x0 x1 x2 hE
    rw [sX0_with_2] at hE
    cases hE
  | succ f ih =>
    intro h x0 x1 x2 hE
    rw [sX0_with_2] at hE
    have mk_2 : ∀ (h : Hp) (x0 : Int32) (x1 : Int32) (x2 : Int32), sX0_with_2 F f h x0 x1 x2 = some o → Le h o.2 := fun h x0 x1 x2 hE => ih hE
    rcases br_e hE with ⟨_, hE⟩ | ⟨_, hE⟩
    · exact moX0_with_35 hE
    · rcases br_e hE with ⟨_, hE⟩ | ⟨_, hE⟩
      · exact moX0_with_35 hE
      · rcases br_e hE with ⟨_, hE⟩ | ⟨_, hE⟩
        · exact moX0_with_35 hE
        · obtain ⟨v_4, ev_4, hE⟩ := nm_e2 hE
          exact mk_2 _ _ _ _ hE
set_option maxRecDepth 20000 in
theorem moX0_with {o : Int32 × Hp} {F : Nat} {h : Hp} {x0 : Int32} {x1 : Int32} (hE : sX0_with F h x0 x1 = some o) : Le h o.2 := by
  exact moX0_with_2 _ hE
set_option maxRecDepth 20000 in
theorem bX0_with_35 {p : Program} {l : Launch} {e : Env} {s : State} {m : MethodId} {args : Array Value} {below : List Frame} {meth : Method} {c : Code} {X : Ec} {h0 : Hp} {o : Int32 × Hp} {F : Nat} (C : Cx X p s m args meth c RX0 cX0_with 4 (some .int) "with") {h : Hp} {x0 : Int32} {x1 : Int32} {x2 : Int32} {H : Heap} {locs : List Loc} (hkm : Km h0 h) (hW : Wx X h H) (hZ : va_S (aA (eB X)) s.heap H locs) (ls : Array Slot) (hl : lv_has ls 4 [(0, .int x0), (1, .int x1), (2, .int x2)]) (hE : sX0_with_35 F h x0 x1 x2 = some o) : W p l e (rm 0 0) s m args below meth c H locs 0 0 (MQ below (QI X h0 o.1 o.2) args s 0 0 (aA (eB X))) (F0 m 35 ls []) := by
  refine lv_iload_n C.1 C.2.1 dX0_with_35 rfl (lv_at hl 0 rfl) ?_
  refine lv_iconst (v := (1 : Int32)) C.1 C.2.1 dX0_with_36 (by decide) ?_
  refine lv_iload_n C.1 C.2.1 dX0_with_37 rfl (lv_at hl 2 rfl) ?_
  refine lv_ishl C.1 C.2.1 dX0_with_38 ?_
  refine lv_iconst (v := (1 : Int32)) C.1 C.2.1 dX0_with_39 (by decide) ?_
  refine lv_isub C.1 C.2.1 dX0_with_40 ?_
  refine lv_iand C.1 C.2.1 dX0_with_41 ?_
  obtain ⟨v_1, ev_1, hE⟩ := nm_e2 hE
  refine x_nmI ev_1 ?_
  refine lv_istore_n (lv' := [(3, .int v_1), (0, .int x0), (1, .int x1), (2, .int x2)]) C.1 C.2.1 dX0_with_42 rfl hl (by decide) rfl (fun ls hl => ?_)
  refine lv_iload_n C.1 C.2.1 dX0_with_43 rfl (lv_at hl 0 rfl) ?_
  refine lv_iload_n C.1 C.2.1 dX0_with_44 rfl (lv_at hl 2 rfl) ?_
  refine lv_iconst (v := (1 : Int32)) C.1 C.2.1 dX0_with_45 (by decide) ?_
  refine lv_iadd C.1 C.2.1 dX0_with_46 ?_
  refine lv_iload_n C.1 C.2.1 dX0_with_47 rfl (lv_at hl 3 rfl) ?_
  refine lv_ishl C.1 C.2.1 dX0_with_48 ?_
  refine lv_ior C.1 C.2.1 dX0_with_49 ?_
  refine lv_iload_n C.1 C.2.1 dX0_with_50 rfl (lv_at hl 1 rfl) ?_
  refine lv_iload_n C.1 C.2.1 dX0_with_51 rfl (lv_at hl 3 rfl) ?_
  refine lv_ishr C.1 C.2.1 dX0_with_52 ?_
  refine lv_iload_n C.1 C.2.1 dX0_with_53 rfl (lv_at hl 3 rfl) ?_
  refine lv_iconst (v := (5 : Int32)) C.1 C.2.1 dX0_with_54 (by decide) ?_
  refine lv_iadd C.1 C.2.1 dX0_with_55 ?_
  refine lv_ishl C.1 C.2.1 dX0_with_56 ?_
  refine lv_ior C.1 C.2.1 dX0_with_57 ?_
  exact x_iret C rfl rfl hW hZ hkm hE dX0_with_58
set_option maxRecDepth 20000 in
theorem bX0_with_2 {p : Program} {l : Launch} {e : Env} {s : State} {m : MethodId} {args : Array Value} {below : List Frame} {meth : Method} {c : Code} {X : Ec} {h0 : Hp} {o : Int32 × Hp} {F : Nat} (C : Cx X p s m args meth c RX0 cX0_with 4 (some .int) "with") : ∀ (f : Nat) {h : Hp} {x0 : Int32} {x1 : Int32} {x2 : Int32} {H : Heap} {locs : List Loc}, Km h0 h → Wx X h H → va_S (aA (eB X)) s.heap H locs → ∀ (ls : Array Slot), lv_has ls 4 [(0, .int x0), (1, .int x1), (2, .int x2)] → sX0_with_2 F f h x0 x1 x2 = some o → W p l e (rm 0 0) s m args below meth c H locs 0 0 (MQ below (QI X h0 o.1 o.2) args s 0 0 (aA (eB X))) (F0 m 2 ls []) := by
  intro f
  induction f with
  | zero =>
    intro h x0 x1 x2 H locs hkm hW hZ ls hl hE
    rw [sX0_with_2] at hE
    cases hE
  | succ f ih =>
    intro h x0 x1 x2 H locs hkm hW hZ ls hl hE
    rw [sX0_with_2] at hE
    have hk_2 : ∀ (h : Hp) (x0 : Int32) (x1 : Int32) (x2 : Int32) (H : Heap) (locs : List Loc), Km h0 h → Wx X h H → va_S (aA (eB X)) s.heap H locs → ∀ (ls : Array Slot), lv_has ls 4 [(0, .int x0), (1, .int x1), (2, .int x2)] → sX0_with_2 F f h x0 x1 x2 = some o → W p l e (rm 0 0) s m args below meth c H locs 0 0 (MQ below (QI X h0 o.1 o.2) args s 0 0 (aA (eB X))) (F0 m 2 ls []) := fun h x0 x1 x2 H locs a b c ls hl hE => ih a b c ls hl hE
    refine lv_iload_n C.1 C.2.1 dX0_with_2 rfl (lv_at hl 2 rfl) ?_
    refine lv_bipush (v := (25 : Int32)) C.1 C.2.1 dX0_with_3 (by decide) ?_
    refine lv_icmp_ge (tgt := 35) C.1 C.2.1 dX0_with_5 (by decide) (fun c_1 => ?_) (fun c_1 => ?_)
    · have hE := br_p hE c_1
      exact bX0_with_35 C hkm hW hZ _ (lv_sub hl [0, 1, 2] rfl) hE
    · have hE := br_n hE c_1
      refine lv_iload_n C.1 C.2.1 dX0_with_8 rfl (lv_at hl 0 rfl) ?_
      refine lv_iload_n C.1 C.2.1 dX0_with_9 rfl (lv_at hl 2 rfl) ?_
      refine lv_ishr C.1 C.2.1 dX0_with_10 ?_
      refine lv_bipush (v := (31 : Int32)) C.1 C.2.1 dX0_with_11 (by decide) ?_
      refine lv_iand C.1 C.2.1 dX0_with_13 ?_
      refine lv_if_eq (tgt := 35) C.1 C.2.1 dX0_with_14 (by decide) (fun c_2 => ?_) (fun c_2 => ?_)
      · have hE := br_p hE c_2
        exact bX0_with_35 C hkm hW hZ _ (lv_sub hl [0, 1, 2] rfl) hE
      · have hE := br_n hE c_2
        refine lv_iload_n C.1 C.2.1 dX0_with_17 rfl (lv_at hl 0 rfl) ?_
        refine lv_iload_n C.1 C.2.1 dX0_with_18 rfl (lv_at hl 2 rfl) ?_
        refine lv_ishr C.1 C.2.1 dX0_with_19 ?_
        refine lv_bipush (v := (31 : Int32)) C.1 C.2.1 dX0_with_20 (by decide) ?_
        refine lv_iand C.1 C.2.1 dX0_with_22 ?_
        refine lv_iload_n C.1 C.2.1 dX0_with_23 rfl (lv_at hl 1 rfl) ?_
        refine lv_iconst (v := (1 : Int32)) C.1 C.2.1 dX0_with_24 (by decide) ?_
        refine lv_iadd C.1 C.2.1 dX0_with_25 ?_
        refine lv_icmp_gt (tgt := 35) C.1 C.2.1 dX0_with_26 (by decide) (fun c_3 => ?_) (fun c_3 => ?_)
        · have hE := br_p hE c_3
          exact bX0_with_35 C hkm hW hZ _ (lv_sub hl [0, 1, 2] rfl) hE
        · have hE := br_n hE c_3
          obtain ⟨v_4, ev_4, hE⟩ := nm_e2 hE
          refine lv_iinc (v := v_4) (lv' := [(2, .int v_4), (0, .int x0), (1, .int x1)]) C.1 C.2.1 dX0_with_29 hl (k := 2) rfl (by rw [ev_4]; rfl) (by decide) rfl (fun ls hl => ?_)
          refine lv_goto (tgt := 2) C.1 C.2.1 dX0_with_32 (by decide) ?_
          exact hk_2 _ _ _ _ _ _ hkm hW hZ _ (lv_sub hl [1, 2, 0] rfl) hE
set_option maxRecDepth 20000 in
theorem ct_X0_with (l : Launch) (X : Ec) (F : Nat) {h : Hp} {x0 : Int32} {x1 : Int32} {o : Int32 × Hp} (hE : sX0_with F h x0 x1 = some o) : MetI l yX0_with cX0_with 4 (some .int) 0 0 X [.int x0, .int x1] h o := by
  refine x_met (by decide) (Nat.le_of_ble_eq_true rfl) ?_
  intro p e s m below meth c ls C hl hW hZ
  have hl : lv_has ls 4 [(0, .int x0), (1, .int x1)] := hl
  have hkm : Km h h := Km.rf h
  refine lv_iconst (v := (0 : Int32)) C.1 C.2.1 dX0_with_0 (by decide) ?_
  refine lv_istore_n (lv' := [(2, .int (0 : Int32)), (0, .int x0), (1, .int x1)]) C.1 C.2.1 dX0_with_1 rfl hl (by decide) rfl (fun ls hl => ?_)
  exact bX0_with_2 C F hkm hW hZ _ (lv_sub hl [1, 2, 0] rfl) hE
set_option maxRecDepth 100000 in
theorem m_13 : Cond.initialized RX0 ∈ W0 := w0_in (List.mem_append_right _ (List.mem_of_getElem? (i := 13) rfl)) rfl
set_option maxRecDepth 100000 in
theorem m_46 : Cond.fieldLink RX0 52 (TX9 1).1 (TX9 1).2.1 (TX9 1).2.2.1 ∈ W0 := w0_in (List.mem_append_right _ (List.mem_of_getElem? (i := 46) rfl)) rfl
set_option maxRecDepth 100000 in
theorem m_86 : Cond.fieldLink RX0 67 (TX1 4).1 (TX1 4).2.1 (TX1 4).2.2.1 ∈ W0 := w0_in (List.mem_append_right _ (List.mem_of_getElem? (i := 86) rfl)) rfl
set_option maxRecDepth 100000 in
theorem m_474 : Cond.fieldLink RX0 74 (TX0 14).1 (TX0 14).2.1 (TX0 14).2.2.1 ∈ W0 := w0_in (List.mem_append_right _ (List.mem_of_getElem? (i := 474) rfl)) rfl
set_option maxRecDepth 100000 in
theorem m_1603 : Cond.methodLink RX0 58 yX9_byteAt ∈ W0 := w0_in (List.mem_append_right _ (List.mem_of_getElem? (i := 1603) rfl)) rfl
set_option maxRecDepth 100000 in
theorem m_1604 : Cond.methodLink RX0 62 yX1_codeOf ∈ W0 := w0_in (List.mem_append_right _ (List.mem_of_getElem? (i := 1604) rfl)) rfl
set_option maxRecDepth 100000 in
theorem m_1605 : Cond.methodLink RX0 70 yX0_with ∈ W0 := w0_in (List.mem_append_right _ (List.mem_of_getElem? (i := 1605) rfl)) rfl
set_option maxRecDepth 100000 in
theorem m_1606 : Cond.static yX0_with ∈ W0 := w0_in (List.mem_append_right _ (List.mem_of_getElem? (i := 1606) rfl)) rfl
set_option maxRecDepth 100000 in
theorem m_1607 : Cond.code yX0_with cX0_with 4 (some .int) ∈ W0 := w0_in (List.mem_append_right _ (List.mem_of_getElem? (i := 1607) rfl)) rfl
section
variable {p : Program} {l : Launch} {e : Env} {R : Room} {s : State} {m : MethodId} {args : Array Value} {below : List Frame} {meth : Method} {c : Code} {H : Heap} {locs : List Loc} {cells slots : Nat} {Q : State → Prop}
variable {cc : ByteArray} {pc : Nat} {ls : Array Slot} {rest : List Value} {X : Ec} {h h1 : Hp} {nL : Nat} {rt : Option FieldType} {mn : String}
theorem gf_X0_52 {a : Nat} (C : Cx X p s m args meth c RX0 cc nL rt mn) (hW : Wx X h H) (ha : hK h a = 9) (hdg : decode cc pc = .ok (.getfield 52, 3)) (kk : W p l e R s m args below meth c H locs cells slots Q (F0 m (pc + 3) ls (.int (hI h a 1) :: rest))) : W p l e R s m args below meth c H locs cells slots Q (F0 m pc ls (.ref a :: rest)) :=
  y_geti C hW ha i_X9 (by decide) rfl (by decide) m_46 rfl hdg kk
theorem pf_X0_74 {a : Nat} {v : Int32} (C : Cx X p s m args meth c RX0 cc nL rt mn) (hW : Wx X h H) (hZ : va_S (aA (eB X)) s.heap H locs) (ha : hK h a = 0) (eh : h1 = wI h a 14 v) (hdg : decode cc pc = .ok (.putfield 74, 3)) (kk : ∀ (H1 : Heap) (locs1 : List Loc), Wx X h1 H1 → Km h h1 → va_S (aA (eB X)) s.heap H1 locs1 → W p l e R s m args below meth c H1 locs1 cells slots Q (F0 m (pc + 3) ls rest)) : W p l e R s m args below meth c H locs cells slots Q (F0 m pc ls (.int v :: .ref a :: rest)) :=
  y_puti (ty := .int) C hW hZ ha i_X0 tyX0 tyX0_ok nmX0 (by decide) rfl rfl (by decide) m_474 rfl (by decide +kernel) rfl rfl rfl eh hdg kk
theorem gf_X0_40 {a r : Nat} (C : Cx X p s m args meth c RX0 cc nL rt mn) (hW : Wx X h H) (ha : hK h a = 0) (hr : hR h a 0 = some r) (hdg : decode cc pc = .ok (.getfield 40, 3)) (kk : hK h r = 1 → W p l e R s m args below meth c H locs cells slots Q (F0 m (pc + 3) ls (.ref r :: rest))) : W p l e R s m args below meth c H locs cells slots Q (F0 m pc ls (.ref a :: rest)) :=
  y_getr C hW ha i_X0 (by decide) rfl (by decide) m_457 rfl rfl hr hdg kk
theorem gf_X0_67 {a : Nat} (C : Cx X p s m args meth c RX0 cc nL rt mn) (hW : Wx X h H) (ha : hK h a = 1) (hdg : decode cc pc = .ok (.getfield 67, 3)) (kk : W p l e R s m args below meth c H locs cells slots Q (F0 m (pc + 3) ls (.int (hI h a 4) :: rest))) : W p l e R s m args below meth c H locs cells slots Q (F0 m pc ls (.ref a :: rest)) :=
  y_geti C hW ha i_X1 (by decide) rfl (by decide) m_86 rfl hdg kk
end
theorem cw_X0_70 : cwd RX0 70 yX0_with cX0_with 4 (some .int) true 2 := ⟨m_1607, m_1605, m_13, m_1606, by decide, by decide, by decide +kernel⟩
theorem cw_X0_58 : cwd RX0 58 yX9_byteAt cX9_byteAt 2 (some .int) false 1 := ⟨m_660, m_1603, m_2, ⟨m_658, m_659⟩, by decide, by decide, by decide +kernel⟩
theorem cw_X0_62 : cwd RX0 62 yX1_codeOf cX1_codeOf 4 (some .int) false 1 := ⟨m_959, m_1604, m_4, ⟨m_957, m_958⟩, by decide, by decide, by decide +kernel⟩
theorem dX0_read_0 : decode cX0_read 0 = .ok (.iconst 0, 1) := by decide +kernel
theorem dX0_read_1 : decode cX0_read 1 = .ok (.istore_n 2, 1) := by decide +kernel
theorem dX0_read_2 : decode cX0_read 2 = .ok (.iconst 0, 1) := by decide +kernel
theorem dX0_read_3 : decode cX0_read 3 = .ok (.istore_n 3, 1) := by decide +kernel
theorem dX0_read_4 : decode cX0_read 4 = .ok (.iconst 0, 1) := by decide +kernel
theorem dX0_read_5 : decode cX0_read 5 = .ok (.istore 4, 2) := by decide +kernel
theorem dX0_read_7 : decode cX0_read 7 = .ok (.iload 4, 2) := by decide +kernel
theorem dX0_read_9 : decode cX0_read 9 = .ok (.aload_n 1, 1) := by decide +kernel
theorem dX0_read_10 : decode cX0_read 10 = .ok (.getfield 52, 3) := by decide +kernel
theorem dX0_read_13 : decode cX0_read 13 = .ok (.if_icmp .ge 83, 3) := by decide +kernel
theorem dX0_read_16 : decode cX0_read 16 = .ok (.aload_n 0, 1) := by decide +kernel
theorem dX0_read_17 : decode cX0_read 17 = .ok (.getfield 40, 3) := by decide +kernel
theorem dX0_read_20 : decode cX0_read 20 = .ok (.aload_n 1, 1) := by decide +kernel
theorem dX0_read_21 : decode cX0_read 21 = .ok (.iload 4, 2) := by decide +kernel
theorem dX0_read_23 : decode cX0_read 23 = .ok (.invokevirtual 58, 3) := by decide +kernel
theorem dX0_read_26 : decode cX0_read 26 = .ok (.invokevirtual 62, 3) := by decide +kernel
theorem dX0_read_29 : decode cX0_read 29 = .ok (.istore 5, 2) := by decide +kernel
theorem dX0_read_31 : decode cX0_read 31 = .ok (.iload 4, 2) := by decide +kernel
theorem dX0_read_33 : decode cX0_read 33 = .ok (.iconst 5, 1) := by decide +kernel
theorem dX0_read_34 : decode cX0_read 34 = .ok (.if_icmp .ge 9, 3) := by decide +kernel
theorem dX0_read_37 : decode cX0_read 37 = .ok (.iload 5, 2) := by decide +kernel
theorem dX0_read_39 : decode cX0_read 39 = .ok (.iconst (-1), 1) := by decide +kernel
theorem dX0_read_40 : decode cX0_read 40 = .ok (.if_icmp .ne 6, 3) := by decide +kernel
theorem dX0_read_43 : decode cX0_read 43 = .ok (.iload 4, 2) := by decide +kernel
theorem dX0_read_45 : decode cX0_read 45 = .ok (.ireturn, 1) := by decide +kernel
theorem dX0_read_46 : decode cX0_read 46 = .ok (.iload 5, 2) := by decide +kernel
theorem dX0_read_48 : decode cX0_read 48 = .ok (.iconst 1, 1) := by decide +kernel
theorem dX0_read_49 : decode cX0_read 49 = .ok (.ishr, 1) := by decide +kernel
theorem dX0_read_50 : decode cX0_read 50 = .ok (.aload_n 0, 1) := by decide +kernel
theorem dX0_read_51 : decode cX0_read 51 = .ok (.getfield 40, 3) := by decide +kernel
theorem dX0_read_54 : decode cX0_read 54 = .ok (.getfield 67, 3) := by decide +kernel
theorem dX0_read_57 : decode cX0_read 57 = .ok (.if_icmp .ne 26, 3) := by decide +kernel
theorem dX0_read_60 : decode cX0_read 60 = .ok (.iload_n 2, 1) := by decide +kernel
theorem dX0_read_61 : decode cX0_read 61 = .ok (.iload 5, 2) := by decide +kernel
theorem dX0_read_63 : decode cX0_read 63 = .ok (.iconst 1, 1) := by decide +kernel
theorem dX0_read_64 : decode cX0_read 64 = .ok (.iand, 1) := by decide +kernel
theorem dX0_read_65 : decode cX0_read 65 = .ok (.ishr, 1) := by decide +kernel
theorem dX0_read_66 : decode cX0_read 66 = .ok (.iconst 1, 1) := by decide +kernel
theorem dX0_read_67 : decode cX0_read 67 = .ok (.iand, 1) := by decide +kernel
theorem dX0_read_68 : decode cX0_read 68 = .ok (.ifCond .eq 6, 3) := by decide +kernel
theorem dX0_read_71 : decode cX0_read 71 = .ok (.iload 4, 2) := by decide +kernel
theorem dX0_read_73 : decode cX0_read 73 = .ok (.ireturn, 1) := by decide +kernel
theorem dX0_read_74 : decode cX0_read 74 = .ok (.iload_n 2, 1) := by decide +kernel
theorem dX0_read_75 : decode cX0_read 75 = .ok (.iconst 1, 1) := by decide +kernel
theorem dX0_read_76 : decode cX0_read 76 = .ok (.iload 5, 2) := by decide +kernel
theorem dX0_read_78 : decode cX0_read 78 = .ok (.iconst 1, 1) := by decide +kernel
theorem dX0_read_79 : decode cX0_read 79 = .ok (.iand, 1) := by decide +kernel
theorem dX0_read_80 : decode cX0_read 80 = .ok (.ishl, 1) := by decide +kernel
theorem dX0_read_81 : decode cX0_read 81 = .ok (.ior, 1) := by decide +kernel
theorem dX0_read_82 : decode cX0_read 82 = .ok (.istore_n 2, 1) := by decide +kernel
theorem dX0_read_83 : decode cX0_read 83 = .ok (.iload_n 3, 1) := by decide +kernel
theorem dX0_read_84 : decode cX0_read 84 = .ok (.iload 5, 2) := by decide +kernel
theorem dX0_read_86 : decode cX0_read 86 = .ok (.invokestatic 70, 3) := by decide +kernel
theorem dX0_read_89 : decode cX0_read 89 = .ok (.istore_n 3, 1) := by decide +kernel
theorem dX0_read_90 : decode cX0_read 90 = .ok (.iinc 4 1, 3) := by decide +kernel
theorem dX0_read_93 : decode cX0_read 93 = .ok (.goto (-86), 3) := by decide +kernel
theorem dX0_read_96 : decode cX0_read 96 = .ok (.aload_n 0, 1) := by decide +kernel
theorem dX0_read_97 : decode cX0_read 97 = .ok (.iload_n 3, 1) := by decide +kernel
theorem dX0_read_98 : decode cX0_read 98 = .ok (.putfield 74, 3) := by decide +kernel
theorem dX0_read_101 : decode cX0_read 101 = .ok (.aload_n 1, 1) := by decide +kernel
theorem dX0_read_102 : decode cX0_read 102 = .ok (.getfield 52, 3) := by decide +kernel
theorem dX0_read_105 : decode cX0_read 105 = .ok (.iconst 2, 1) := by decide +kernel
theorem dX0_read_106 : decode cX0_read 106 = .ok (.if_icmp .ge 10, 3) := by decide +kernel
theorem dX0_read_109 : decode cX0_read 109 = .ok (.aload_n 1, 1) := by decide +kernel
theorem dX0_read_110 : decode cX0_read 110 = .ok (.getfield 52, 3) := by decide +kernel
theorem dX0_read_113 : decode cX0_read 113 = .ok (.goto 4, 3) := by decide +kernel
theorem dX0_read_116 : decode cX0_read 116 = .ok (.iconst (-1), 1) := by decide +kernel
theorem dX0_read_117 : decode cX0_read 117 = .ok (.ireturn, 1) := by decide +kernel
set_option maxRecDepth 20000 in
theorem moX0_read_117 {o : Int32 × Hp} {F : Nat} {h : Hp} {t0 : Int32} (hE : sX0_read_117 F h  t0 = some o) : Le h o.2 := by
  exact le_some2 hE
set_option maxRecDepth 20000 in
theorem moX0_read_43 {o : Int32 × Hp} {F : Nat} {h : Hp} {x4 : Int32} (hE : sX0_read_43 F h x4 = some o) : Le h o.2 := by
  exact le_some2 hE
set_option maxRecDepth 20000 in
theorem moX0_read_83 {o : Int32 × Hp} {k_7 : Hp → Nat → Nat → Int32 → Int32 → Int32 → Option (Int32 × Hp)} {F : Nat} (mk_7 : ∀ (h : Hp) (x0 : Nat) (x1 : Nat) (x2 : Int32) (x3 : Int32) (x4 : Int32), k_7 h x0 x1 x2 x3 x4 = some o → Le h o.2) {h : Hp} {x0 : Nat} {x1 : Nat} {x2 : Int32} {x3 : Int32} {x4 : Int32} {x5 : Int32} (hE : sX0_read_83 F k_7 h x0 x1 x2 x3 x4 x5 = some o) : Le h o.2 := by
  obtain ⟨o_1, eo_1, hE⟩ := cl_e hE
  refine (moX0_with eo_1).tr ?_
  obtain ⟨v_2, ev_2, hE⟩ := nm_e2 hE
  exact mk_7 _ _ _ _ _ _ hE
set_option maxRecDepth 20000 in
theorem moX0_read_7 {o : Int32 × Hp} {F : Nat} : ∀ (f : Nat) {h : Hp} {x0 : Nat} {x1 : Nat} {x2 : Int32} {x3 : Int32} {x4 : Int32}, sX0_read_7 F f h x0 x1 x2 x3 x4 = some o → Le h o.2 := by
  intro f
  induction f with
  | zero =>
    intro h x0 x1 x2 x3 x4 hE
    rw [sX0_read_7] at hE
    cases hE
  | succ f ih =>
    intro h x0 x1 x2 x3 x4 hE
    rw [sX0_read_7] at hE
    have mk_7 : ∀ (h : Hp) (x0 : Nat) (x1 : Nat) (x2 : Int32) (x3 : Int32) (x4 : Int32), sX0_read_7 F f h x0 x1 x2 x3 x4 = some o → Le h o.2 := fun h x0 x1 x2 x3 x4 hE => ih hE
    rcases br_e hE with ⟨_, hE⟩ | ⟨_, hE⟩
    · obtain ⟨h_2, eh_2, hE⟩ := nm_e2 hE
      refine (le_I eh_2).tr ?_
      rcases br_e hE with ⟨_, hE⟩ | ⟨_, hE⟩
      · exact moX0_read_117 hE
      · exact moX0_read_117 hE
    · obtain ⟨r_4, er_4, hE⟩ := cl_e hE
      obtain ⟨o_5, eo_5, hE⟩ := cl_e hE
      refine (moX9_byteAt eo_5).tr ?_
      obtain ⟨o_6, eo_6, hE⟩ := cl_e hE
      refine (moX1_codeOf eo_6).tr ?_
      rcases br_e hE with ⟨_, hE⟩ | ⟨_, hE⟩
      · exact moX0_read_43 hE
      · rcases br_e hE with ⟨_, hE⟩ | ⟨_, hE⟩
        · exact moX0_read_43 hE
        · obtain ⟨r_9, er_9, hE⟩ := cl_e hE
          rcases br_e hE with ⟨_, hE⟩ | ⟨_, hE⟩
          · rcases br_e hE with ⟨_, hE⟩ | ⟨_, hE⟩
            · obtain ⟨v_12, ev_12, hE⟩ := nm_e2 hE
              exact moX0_read_83 mk_7 hE
            · exact le_some2 hE
          · exact moX0_read_83 mk_7 hE
set_option maxRecDepth 20000 in
theorem moX0_read {o : Int32 × Hp} {F : Nat} {h : Hp} {x0 : Nat} {x1 : Nat} (hE : sX0_read F h x0 x1 = some o) : Le h o.2 := by
  exact moX0_read_7 _ hE
set_option maxRecDepth 20000 in
theorem bX0_read_117 {p : Program} {l : Launch} {e : Env} {s : State} {m : MethodId} {args : Array Value} {below : List Frame} {meth : Method} {c : Code} {X : Ec} {h0 : Hp} {o : Int32 × Hp} {F : Nat} (C : Cx X p s m args meth c RX0 cX0_read 6 (some .int) "read") {h : Hp} {t0 : Int32} {H : Heap} {locs : List Loc} (hkm : Km h0 h) (hW : Wx X h H) (hZ : va_S (aA (eB X)) s.heap H locs) (ls : Array Slot) (hl : lv_has ls 6 []) (hE : sX0_read_117 F h  t0 = some o) : W p l e (rm 2 45) s m args below meth c H locs 0 0 (MQ below (QI X h0 o.1 o.2) args s 0 0 (aA (eB X))) (F0 m 117 ls [.int t0]) := by
  exact x_iret C rfl rfl hW hZ hkm hE dX0_read_117
set_option maxRecDepth 20000 in
theorem bX0_read_43 {p : Program} {l : Launch} {e : Env} {s : State} {m : MethodId} {args : Array Value} {below : List Frame} {meth : Method} {c : Code} {X : Ec} {h0 : Hp} {o : Int32 × Hp} {F : Nat} (C : Cx X p s m args meth c RX0 cX0_read 6 (some .int) "read") {h : Hp} {x4 : Int32} {H : Heap} {locs : List Loc} (hkm : Km h0 h) (hW : Wx X h H) (hZ : va_S (aA (eB X)) s.heap H locs) (ls : Array Slot) (hl : lv_has ls 6 [(4, .int x4)]) (hE : sX0_read_43 F h x4 = some o) : W p l e (rm 2 45) s m args below meth c H locs 0 0 (MQ below (QI X h0 o.1 o.2) args s 0 0 (aA (eB X))) (F0 m 43 ls []) := by
  refine lv_iload C.1 C.2.1 dX0_read_43 (lv_at hl 0 rfl) ?_
  exact x_iret C rfl rfl hW hZ hkm hE dX0_read_45
set_option maxRecDepth 20000 in
theorem bX0_read_83 {p : Program} {l : Launch} {e : Env} {s : State} {m : MethodId} {args : Array Value} {below : List Frame} {meth : Method} {c : Code} {X : Ec} {h0 : Hp} {o : Int32 × Hp} {k_7 : Hp → Nat → Nat → Int32 → Int32 → Int32 → Option (Int32 × Hp)} {F : Nat} (C : Cx X p s m args meth c RX0 cX0_read 6 (some .int) "read") (hk_7 : ∀ (h : Hp) (x0 : Nat) (x1 : Nat) (x2 : Int32) (x3 : Int32) (x4 : Int32) (H : Heap) (locs : List Loc), hK h x0 = 0 → hK h x1 = 9 → Km h0 h → Wx X h H → va_S (aA (eB X)) s.heap H locs → ∀ (ls : Array Slot), lv_has ls 6 [(0, .ref x0), (1, .ref x1), (2, .int x2), (3, .int x3), (4, .int x4)] → k_7 h x0 x1 x2 x3 x4 = some o → W p l e (rm 2 45) s m args below meth c H locs 0 0 (MQ below (QI X h0 o.1 o.2) args s 0 0 (aA (eB X))) (F0 m 7 ls [])) {h : Hp} {x0 : Nat} {x1 : Nat} {x2 : Int32} {x3 : Int32} {x4 : Int32} {x5 : Int32} {H : Heap} {locs : List Loc} (k_x0 : hK h x0 = 0) (k_x1 : hK h x1 = 9) (hkm : Km h0 h) (hW : Wx X h H) (hZ : va_S (aA (eB X)) s.heap H locs) (ls : Array Slot) (hl : lv_has ls 6 [(0, .ref x0), (1, .ref x1), (2, .int x2), (3, .int x3), (4, .int x4), (5, .int x5)]) (hE : sX0_read_83 F k_7 h x0 x1 x2 x3 x4 x5 = some o) : W p l e (rm 2 45) s m args below meth c H locs 0 0 (MQ below (QI X h0 o.1 o.2) args s 0 0 (aA (eB X))) (F0 m 83 ls []) := by
  refine lv_iload_n C.1 C.2.1 dX0_read_83 rfl (lv_at hl 3 rfl) ?_
  refine lv_iload C.1 C.2.1 dX0_read_84 (lv_at hl 5 rfl) ?_
  obtain ⟨o_1, eo_1, hE⟩ := cl_e hE
  refine x_kI (o := o_1) (z_runS (As := [.int x3, .int x5]) (rest := []) C (ct_X0_with l X F eo_1) cw_X0_70 hW hZ rfl hl.1 (Nat.le_of_ble_eq_true rfl) rfl dX0_read_86 ⟨Nat.le_of_ble_eq_true rfl, Nat.le_of_ble_eq_true rfl⟩ ⟨Nat.le_refl _, Nat.le_refl _⟩) hZ (fun _ _ hW km hZ => ?_)
  replace hkm := hkm.tr km
  replace k_x0 := km.at k_x0 (by decide)
  replace k_x1 := km.at k_x1 (by decide)
  refine lv_istore_n (lv' := [(3, .int o_1.1), (0, .ref x0), (1, .ref x1), (2, .int x2), (4, .int x4), (5, .int x5)]) C.1 C.2.1 dX0_read_89 rfl hl (by decide) rfl (fun ls hl => ?_)
  obtain ⟨v_2, ev_2, hE⟩ := nm_e2 hE
  refine lv_iinc (v := v_2) (lv' := [(4, .int v_2), (3, .int o_1.1), (0, .ref x0), (1, .ref x1), (2, .int x2), (5, .int x5)]) C.1 C.2.1 dX0_read_90 hl (k := 4) rfl (by rw [ev_2]; rfl) (by decide) rfl (fun ls hl => ?_)
  refine lv_goto (tgt := 7) C.1 C.2.1 dX0_read_93 (by decide) ?_
  exact hk_7 _ _ _ _ _ _ _ _ k_x0 k_x1 hkm hW hZ _ (lv_sub hl [2, 3, 4, 1, 0] rfl) hE
set_option maxRecDepth 20000 in
theorem bX0_read_7 {p : Program} {l : Launch} {e : Env} {s : State} {m : MethodId} {args : Array Value} {below : List Frame} {meth : Method} {c : Code} {X : Ec} {h0 : Hp} {o : Int32 × Hp} {F : Nat} (C : Cx X p s m args meth c RX0 cX0_read 6 (some .int) "read") : ∀ (f : Nat) {h : Hp} {x0 : Nat} {x1 : Nat} {x2 : Int32} {x3 : Int32} {x4 : Int32} {H : Heap} {locs : List Loc} (k_x0 : hK h x0 = 0) (k_x1 : hK h x1 = 9), Km h0 h → Wx X h H → va_S (aA (eB X)) s.heap H locs → ∀ (ls : Array Slot), lv_has ls 6 [(0, .ref x0), (1, .ref x1), (2, .int x2), (3, .int x3), (4, .int x4)] → sX0_read_7 F f h x0 x1 x2 x3 x4 = some o → W p l e (rm 2 45) s m args below meth c H locs 0 0 (MQ below (QI X h0 o.1 o.2) args s 0 0 (aA (eB X))) (F0 m 7 ls []) := by
  intro f
  induction f with
  | zero =>
    intro h x0 x1 x2 x3 x4 H locs k_x0 k_x1 hkm hW hZ ls hl hE
    rw [sX0_read_7] at hE
    cases hE
  | succ f ih =>
    intro h x0 x1 x2 x3 x4 H locs k_x0 k_x1 hkm hW hZ ls hl hE
    rw [sX0_read_7] at hE
    have hk_7 : ∀ (h : Hp) (x0 : Nat) (x1 : Nat) (x2 : Int32) (x3 : Int32) (x4 : Int32) (H : Heap) (locs : List Loc), hK h x0 = 0 → hK h x1 = 9 → Km h0 h → Wx X h H → va_S (aA (eB X)) s.heap H locs → ∀ (ls : Array Slot), lv_has ls 6 [(0, .ref x0), (1, .ref x1), (2, .int x2), (3, .int x3), (4, .int x4)] → sX0_read_7 F f h x0 x1 x2 x3 x4 = some o → W p l e (rm 2 45) s m args below meth c H locs 0 0 (MQ below (QI X h0 o.1 o.2) args s 0 0 (aA (eB X))) (F0 m 7 ls []) := fun h x0 x1 x2 x3 x4 H locs k_x0 k_x1 a b c ls hl hE => ih k_x0 k_x1 a b c ls hl hE
    refine lv_iload C.1 C.2.1 dX0_read_7 (lv_at hl 4 rfl) ?_
    refine lv_aload_n C.1 C.2.1 dX0_read_9 rfl (lv_at hl 1 rfl) ?_
    refine gf_X0_52 C hW k_x1 dX0_read_10 ?_
    refine lv_icmp_ge (tgt := 96) C.1 C.2.1 dX0_read_13 (by decide) (fun c_1 => ?_) (fun c_1 => ?_)
    · have hE := br_p hE c_1
      refine lv_aload_n C.1 C.2.1 dX0_read_96 rfl (lv_at hl 0 rfl) ?_
      refine lv_iload_n C.1 C.2.1 dX0_read_97 rfl (lv_at hl 3 rfl) ?_
      obtain ⟨h_2, eh_2, hE⟩ := nm_e2 hE
      refine pf_X0_74 C hW hZ k_x0 eh_2 dX0_read_98 (fun _ _ hW km hZ => ?_)
      replace hkm := hkm.tr km
      replace k_x0 := km.at k_x0 (by decide)
      replace k_x1 := km.at k_x1 (by decide)
      refine lv_aload_n C.1 C.2.1 dX0_read_101 rfl (lv_at hl 1 rfl) ?_
      refine gf_X0_52 C hW k_x1 dX0_read_102 ?_
      refine lv_iconst (v := (2 : Int32)) C.1 C.2.1 dX0_read_105 (by decide) ?_
      refine lv_icmp_ge (tgt := 116) C.1 C.2.1 dX0_read_106 (by decide) (fun c_3 => ?_) (fun c_3 => ?_)
      · have hE := br_p hE c_3
        refine lv_iconst (v := (-1 : Int32)) C.1 C.2.1 dX0_read_116 (by decide) ?_
        exact bX0_read_117 C hkm hW hZ _ (lv_sub hl [] rfl) hE
      · have hE := br_n hE c_3
        refine lv_aload_n C.1 C.2.1 dX0_read_109 rfl (lv_at hl 1 rfl) ?_
        refine gf_X0_52 C hW k_x1 dX0_read_110 ?_
        refine lv_goto (tgt := 117) C.1 C.2.1 dX0_read_113 (by decide) ?_
        exact bX0_read_117 C hkm hW hZ _ (lv_sub hl [] rfl) hE
    · have hE := br_n hE c_1
      refine lv_aload_n C.1 C.2.1 dX0_read_16 rfl (lv_at hl 0 rfl) ?_
      obtain ⟨r_4, er_4, hE⟩ := cl_e hE
      refine gf_X0_40 C hW k_x0 er_4 dX0_read_17 (fun k_r_4 => ?_)
      refine lv_aload_n C.1 C.2.1 dX0_read_20 rfl (lv_at hl 1 rfl) ?_
      refine lv_iload C.1 C.2.1 dX0_read_21 (lv_at hl 4 rfl) ?_
      obtain ⟨o_5, eo_5, hE⟩ := cl_e hE
      refine x_kI (o := o_5) (z_runV (As := [.int x4]) (rest := [.ref r_4]) C (ct_X9_byteAt l X k_x1 eo_5) cw_X0_58 hW hZ k_x1 (by decide) rfl rfl rfl hl.1 (Nat.le_of_ble_eq_true rfl) rfl dX0_read_23 ⟨Nat.le_of_ble_eq_true rfl, Nat.le_of_ble_eq_true rfl⟩ ⟨Nat.le_refl _, Nat.le_refl _⟩) hZ (fun _ _ hW km hZ => ?_)
      replace hkm := hkm.tr km
      replace k_x0 := km.at k_x0 (by decide)
      replace k_x1 := km.at k_x1 (by decide)
      replace k_r_4 := km.at k_r_4 (by decide)
      obtain ⟨o_6, eo_6, hE⟩ := cl_e hE
      refine x_kI (o := o_6) (z_runV (As := [.int o_5.1]) (rest := []) C (ct_X1_codeOf l X F k_r_4 eo_6) cw_X0_62 hW hZ k_r_4 (by decide) rfl rfl rfl hl.1 (Nat.le_of_ble_eq_true rfl) rfl dX0_read_26 ⟨Nat.le_of_ble_eq_true rfl, Nat.le_of_ble_eq_true rfl⟩ ⟨Nat.le_refl _, Nat.le_refl _⟩) hZ (fun _ _ hW km hZ => ?_)
      replace hkm := hkm.tr km
      replace k_x0 := km.at k_x0 (by decide)
      replace k_x1 := km.at k_x1 (by decide)
      refine lv_istore (lv' := [(5, .int o_6.1), (0, .ref x0), (1, .ref x1), (2, .int x2), (3, .int x3), (4, .int x4)]) C.1 C.2.1 dX0_read_29 hl (by decide) rfl (fun ls hl => ?_)
      refine lv_iload C.1 C.2.1 dX0_read_31 (lv_at hl 5 rfl) ?_
      refine lv_iconst (v := (5 : Int32)) C.1 C.2.1 dX0_read_33 (by decide) ?_
      refine lv_icmp_ge (tgt := 43) C.1 C.2.1 dX0_read_34 (by decide) (fun c_7 => ?_) (fun c_7 => ?_)
      · have hE := br_p hE c_7
        exact bX0_read_43 C hkm hW hZ _ (lv_sub hl [5] rfl) hE
      · have hE := br_n hE c_7
        refine lv_iload C.1 C.2.1 dX0_read_37 (lv_at hl 0 rfl) ?_
        refine lv_iconst (v := (-1 : Int32)) C.1 C.2.1 dX0_read_39 (by decide) ?_
        refine lv_icmp_ne (tgt := 46) C.1 C.2.1 dX0_read_40 (by decide) (fun c_8 => ?_) (fun c_8 => ?_)
        · have hE := br_n hE c_8
          refine lv_iload C.1 C.2.1 dX0_read_46 (lv_at hl 0 rfl) ?_
          refine lv_iconst (v := (1 : Int32)) C.1 C.2.1 dX0_read_48 (by decide) ?_
          refine lv_ishr C.1 C.2.1 dX0_read_49 ?_
          refine lv_aload_n C.1 C.2.1 dX0_read_50 rfl (lv_at hl 1 rfl) ?_
          obtain ⟨r_9, er_9, hE⟩ := cl_e hE
          refine gf_X0_40 C hW k_x0 er_9 dX0_read_51 (fun k_r_9 => ?_)
          refine gf_X0_67 C hW k_r_9 dX0_read_54 ?_
          refine lv_icmp_ne (tgt := 83) C.1 C.2.1 dX0_read_57 (by decide) (fun c_10 => ?_) (fun c_10 => ?_)
          · have hE := br_n hE c_10
            exact bX0_read_83 C hk_7 k_x0 k_x1 hkm hW hZ _ (lv_sub hl [1, 2, 3, 4, 5, 0] rfl) hE
          · have hE := br_p hE c_10
            refine lv_iload_n C.1 C.2.1 dX0_read_60 rfl (lv_at hl 3 rfl) ?_
            refine lv_iload C.1 C.2.1 dX0_read_61 (lv_at hl 0 rfl) ?_
            refine lv_iconst (v := (1 : Int32)) C.1 C.2.1 dX0_read_63 (by decide) ?_
            refine lv_iand C.1 C.2.1 dX0_read_64 ?_
            refine lv_ishr C.1 C.2.1 dX0_read_65 ?_
            refine lv_iconst (v := (1 : Int32)) C.1 C.2.1 dX0_read_66 (by decide) ?_
            refine lv_iand C.1 C.2.1 dX0_read_67 ?_
            refine lv_if_eq (tgt := 74) C.1 C.2.1 dX0_read_68 (by decide) (fun c_11 => ?_) (fun c_11 => ?_)
            · have hE := br_p hE c_11
              refine lv_iload_n C.1 C.2.1 dX0_read_74 rfl (lv_at hl 3 rfl) ?_
              refine lv_iconst (v := (1 : Int32)) C.1 C.2.1 dX0_read_75 (by decide) ?_
              refine lv_iload C.1 C.2.1 dX0_read_76 (lv_at hl 0 rfl) ?_
              refine lv_iconst (v := (1 : Int32)) C.1 C.2.1 dX0_read_78 (by decide) ?_
              refine lv_iand C.1 C.2.1 dX0_read_79 ?_
              refine lv_ishl C.1 C.2.1 dX0_read_80 ?_
              refine lv_ior C.1 C.2.1 dX0_read_81 ?_
              obtain ⟨v_12, ev_12, hE⟩ := nm_e2 hE
              refine x_nmI ev_12 ?_
              refine lv_istore_n (lv' := [(2, .int v_12), (5, .int o_6.1), (0, .ref x0), (1, .ref x1), (3, .int x3), (4, .int x4)]) C.1 C.2.1 dX0_read_82 rfl hl (by decide) rfl (fun ls hl => ?_)
              exact bX0_read_83 C hk_7 k_x0 k_x1 hkm hW hZ _ (lv_sub hl [2, 3, 0, 4, 5, 1] rfl) hE
            · have hE := br_n hE c_11
              refine lv_iload C.1 C.2.1 dX0_read_71 (lv_at hl 5 rfl) ?_
              exact x_iret C rfl rfl hW hZ hkm hE dX0_read_73
        · have hE := br_p hE c_8
          exact bX0_read_43 C hkm hW hZ _ (lv_sub hl [5] rfl) hE
set_option maxRecDepth 20000 in
theorem ct_X0_read (l : Launch) (X : Ec) (F : Nat) {h : Hp} {x0 : Nat} {x1 : Nat} {o : Int32 × Hp} (k_x0 : hK h x0 = 0) (k_x1 : hK h x1 = 9) (hE : sX0_read F h x0 x1 = some o) : MetI l yX0_read cX0_read 6 (some .int) 2 45 X [.ref x0, .ref x1] h o := by
  refine x_met (by decide) (Nat.le_of_ble_eq_true rfl) ?_
  intro p e s m below meth c ls C hl hW hZ
  have hl : lv_has ls 6 [(0, .ref x0), (1, .ref x1)] := hl
  have hkm : Km h h := Km.rf h
  refine lv_iconst (v := (0 : Int32)) C.1 C.2.1 dX0_read_0 (by decide) ?_
  refine lv_istore_n (lv' := [(2, .int (0 : Int32)), (0, .ref x0), (1, .ref x1)]) C.1 C.2.1 dX0_read_1 rfl hl (by decide) rfl (fun ls hl => ?_)
  refine lv_iconst (v := (0 : Int32)) C.1 C.2.1 dX0_read_2 (by decide) ?_
  refine lv_istore_n (lv' := [(3, .int (0 : Int32)), (2, .int (0 : Int32)), (0, .ref x0), (1, .ref x1)]) C.1 C.2.1 dX0_read_3 rfl hl (by decide) rfl (fun ls hl => ?_)
  refine lv_iconst (v := (0 : Int32)) C.1 C.2.1 dX0_read_4 (by decide) ?_
  refine lv_istore (lv' := [(4, .int (0 : Int32)), (3, .int (0 : Int32)), (2, .int (0 : Int32)), (0, .ref x0), (1, .ref x1)]) C.1 C.2.1 dX0_read_5 hl (by decide) rfl (fun ls hl => ?_)
  exact bX0_read_7 C F k_x0 k_x1 hkm hW hZ _ (lv_sub hl [3, 4, 2, 1, 0] rfl) hE
theorem dX0_codeIn_0 : decode cX0_codeIn 0 = .ok (.iload_n 0, 1) := by decide +kernel
theorem dX0_codeIn_1 : decode cX0_codeIn 1 = .ok (.iconst 5, 1) := by decide +kernel
theorem dX0_codeIn_2 : decode cX0_codeIn 2 = .ok (.iload_n 1, 1) := by decide +kernel
theorem dX0_codeIn_3 : decode cX0_codeIn 3 = .ok (.imul, 1) := by decide +kernel
theorem dX0_codeIn_4 : decode cX0_codeIn 4 = .ok (.ishr, 1) := by decide +kernel
theorem dX0_codeIn_5 : decode cX0_codeIn 5 = .ok (.bipush 31, 2) := by decide +kernel
theorem dX0_codeIn_7 : decode cX0_codeIn 7 = .ok (.iand, 1) := by decide +kernel
theorem dX0_codeIn_8 : decode cX0_codeIn 8 = .ok (.iconst 1, 1) := by decide +kernel
theorem dX0_codeIn_9 : decode cX0_codeIn 9 = .ok (.isub, 1) := by decide +kernel
theorem dX0_codeIn_10 : decode cX0_codeIn 10 = .ok (.ireturn, 1) := by decide +kernel
set_option maxRecDepth 20000 in
theorem moX0_codeIn {o : Int32 × Hp} {h : Hp} {x0 : Int32} {x1 : Int32} (hE : sX0_codeIn h x0 x1 = some o) : Le h o.2 := by
  exact le_some2 hE
set_option maxRecDepth 20000 in
theorem ct_X0_codeIn (l : Launch) (X : Ec) {h : Hp} {x0 : Int32} {x1 : Int32} {o : Int32 × Hp} (hE : sX0_codeIn h x0 x1 = some o) : MetI l yX0_codeIn cX0_codeIn 2 (some .int) 0 0 X [.int x0, .int x1] h o := by
  refine x_met (by decide) (Nat.le_of_ble_eq_true rfl) ?_
  intro p e s m below meth c ls C hl hW hZ
  have hl : lv_has ls 2 [(0, .int x0), (1, .int x1)] := hl
  have hkm : Km h h := Km.rf h
  refine lv_iload_n C.1 C.2.1 dX0_codeIn_0 rfl (lv_at hl 0 rfl) ?_
  refine lv_iconst (v := (5 : Int32)) C.1 C.2.1 dX0_codeIn_1 (by decide) ?_
  refine lv_iload_n C.1 C.2.1 dX0_codeIn_2 rfl (lv_at hl 1 rfl) ?_
  refine lv_imul C.1 C.2.1 dX0_codeIn_3 ?_
  refine lv_ishr C.1 C.2.1 dX0_codeIn_4 ?_
  refine lv_bipush (v := (31 : Int32)) C.1 C.2.1 dX0_codeIn_5 (by decide) ?_
  refine lv_iand C.1 C.2.1 dX0_codeIn_7 ?_
  refine lv_iconst (v := (1 : Int32)) C.1 C.2.1 dX0_codeIn_8 (by decide) ?_
  refine lv_isub C.1 C.2.1 dX0_codeIn_9 ?_
  exact x_iret C rfl rfl hW hZ hkm hE dX0_codeIn_10
set_option maxRecDepth 100000 in
theorem m_1624 : Cond.methodLink RX0 123 yX0_codeIn ∈ W0 := w0_in (List.mem_append_right _ (List.mem_of_getElem? (i := 1624) rfl)) rfl
set_option maxRecDepth 100000 in
theorem m_1625 : Cond.static yX0_codeIn ∈ W0 := w0_in (List.mem_append_right _ (List.mem_of_getElem? (i := 1625) rfl)) rfl
set_option maxRecDepth 100000 in
theorem m_1626 : Cond.code yX0_codeIn cX0_codeIn 2 (some .int) ∈ W0 := w0_in (List.mem_append_right _ (List.mem_of_getElem? (i := 1626) rfl)) rfl
theorem cw_X0_123 : cwd RX0 123 yX0_codeIn cX0_codeIn 2 (some .int) true 2 := ⟨m_1626, m_1624, m_13, m_1625, by decide, by decide, by decide +kernel⟩
theorem dX0_sizeOf_0 : decode cX0_sizeOf 0 = .ok (.iconst 0, 1) := by decide +kernel
theorem dX0_sizeOf_1 : decode cX0_sizeOf 1 = .ok (.istore_n 1, 1) := by decide +kernel
theorem dX0_sizeOf_2 : decode cX0_sizeOf 2 = .ok (.iload_n 1, 1) := by decide +kernel
theorem dX0_sizeOf_3 : decode cX0_sizeOf 3 = .ok (.iconst 5, 1) := by decide +kernel
theorem dX0_sizeOf_4 : decode cX0_sizeOf 4 = .ok (.if_icmp .ge 18, 3) := by decide +kernel
theorem dX0_sizeOf_7 : decode cX0_sizeOf 7 = .ok (.iload_n 0, 1) := by decide +kernel
theorem dX0_sizeOf_8 : decode cX0_sizeOf 8 = .ok (.iload_n 1, 1) := by decide +kernel
theorem dX0_sizeOf_9 : decode cX0_sizeOf 9 = .ok (.invokestatic 123, 3) := by decide +kernel
theorem dX0_sizeOf_12 : decode cX0_sizeOf 12 = .ok (.iconst (-1), 1) := by decide +kernel
theorem dX0_sizeOf_13 : decode cX0_sizeOf 13 = .ok (.if_icmp .eq 9, 3) := by decide +kernel
theorem dX0_sizeOf_16 : decode cX0_sizeOf 16 = .ok (.iinc 1 1, 3) := by decide +kernel
theorem dX0_sizeOf_19 : decode cX0_sizeOf 19 = .ok (.goto (-17), 3) := by decide +kernel
theorem dX0_sizeOf_22 : decode cX0_sizeOf 22 = .ok (.iload_n 1, 1) := by decide +kernel
theorem dX0_sizeOf_23 : decode cX0_sizeOf 23 = .ok (.ireturn, 1) := by decide +kernel
set_option maxRecDepth 20000 in
theorem moX0_sizeOf_22 {o : Int32 × Hp} {F : Nat} {h : Hp} {x1 : Int32} (hE : sX0_sizeOf_22 F h x1 = some o) : Le h o.2 := by
  exact le_some2 hE
set_option maxRecDepth 20000 in
theorem moX0_sizeOf_2 {o : Int32 × Hp} {F : Nat} : ∀ (f : Nat) {h : Hp} {x0 : Int32} {x1 : Int32}, sX0_sizeOf_2 F f h x0 x1 = some o → Le h o.2 := by
  intro f
  induction f with
  | zero =>
    intro h x0 x1 hE
    rw [sX0_sizeOf_2] at hE
    cases hE
  | succ f ih =>
    intro h x0 x1 hE
    rw [sX0_sizeOf_2] at hE
    have mk_2 : ∀ (h : Hp) (x0 : Int32) (x1 : Int32), sX0_sizeOf_2 F f h x0 x1 = some o → Le h o.2 := fun h x0 x1 hE => ih hE
    rcases br_e hE with ⟨_, hE⟩ | ⟨_, hE⟩
    · exact moX0_sizeOf_22 hE
    · obtain ⟨o_2, eo_2, hE⟩ := cl_e hE
      refine (moX0_codeIn eo_2).tr ?_
      rcases br_e hE with ⟨_, hE⟩ | ⟨_, hE⟩
      · exact moX0_sizeOf_22 hE
      · obtain ⟨v_4, ev_4, hE⟩ := nm_e2 hE
        exact mk_2 _ _ _ hE
set_option maxRecDepth 20000 in
theorem moX0_sizeOf {o : Int32 × Hp} {F : Nat} {h : Hp} {x0 : Int32} (hE : sX0_sizeOf F h x0 = some o) : Le h o.2 := by
  exact moX0_sizeOf_2 _ hE
set_option maxRecDepth 20000 in
theorem bX0_sizeOf_22 {p : Program} {l : Launch} {e : Env} {s : State} {m : MethodId} {args : Array Value} {below : List Frame} {meth : Method} {c : Code} {X : Ec} {h0 : Hp} {o : Int32 × Hp} {F : Nat} (C : Cx X p s m args meth c RX0 cX0_sizeOf 2 (some .int) "sizeOf") {h : Hp} {x1 : Int32} {H : Heap} {locs : List Loc} (hkm : Km h0 h) (hW : Wx X h H) (hZ : va_S (aA (eB X)) s.heap H locs) (ls : Array Slot) (hl : lv_has ls 2 [(1, .int x1)]) (hE : sX0_sizeOf_22 F h x1 = some o) : W p l e (rm 1 21) s m args below meth c H locs 0 0 (MQ below (QI X h0 o.1 o.2) args s 0 0 (aA (eB X))) (F0 m 22 ls []) := by
  refine lv_iload_n C.1 C.2.1 dX0_sizeOf_22 rfl (lv_at hl 0 rfl) ?_
  exact x_iret C rfl rfl hW hZ hkm hE dX0_sizeOf_23
set_option maxRecDepth 20000 in
theorem bX0_sizeOf_2 {p : Program} {l : Launch} {e : Env} {s : State} {m : MethodId} {args : Array Value} {below : List Frame} {meth : Method} {c : Code} {X : Ec} {h0 : Hp} {o : Int32 × Hp} {F : Nat} (C : Cx X p s m args meth c RX0 cX0_sizeOf 2 (some .int) "sizeOf") : ∀ (f : Nat) {h : Hp} {x0 : Int32} {x1 : Int32} {H : Heap} {locs : List Loc}, Km h0 h → Wx X h H → va_S (aA (eB X)) s.heap H locs → ∀ (ls : Array Slot), lv_has ls 2 [(0, .int x0), (1, .int x1)] → sX0_sizeOf_2 F f h x0 x1 = some o → W p l e (rm 1 21) s m args below meth c H locs 0 0 (MQ below (QI X h0 o.1 o.2) args s 0 0 (aA (eB X))) (F0 m 2 ls []) := by
  intro f
  induction f with
  | zero =>
    intro h x0 x1 H locs hkm hW hZ ls hl hE
    rw [sX0_sizeOf_2] at hE
    cases hE
  | succ f ih =>
    intro h x0 x1 H locs hkm hW hZ ls hl hE
    rw [sX0_sizeOf_2] at hE
    have hk_2 : ∀ (h : Hp) (x0 : Int32) (x1 : Int32) (H : Heap) (locs : List Loc), Km h0 h → Wx X h H → va_S (aA (eB X)) s.heap H locs → ∀ (ls : Array Slot), lv_has ls 2 [(0, .int x0), (1, .int x1)] → sX0_sizeOf_2 F f h x0 x1 = some o → W p l e (rm 1 21) s m args below meth c H locs 0 0 (MQ below (QI X h0 o.1 o.2) args s 0 0 (aA (eB X))) (F0 m 2 ls []) := fun h x0 x1 H locs a b c ls hl hE => ih a b c ls hl hE
    refine lv_iload_n C.1 C.2.1 dX0_sizeOf_2 rfl (lv_at hl 1 rfl) ?_
    refine lv_iconst (v := (5 : Int32)) C.1 C.2.1 dX0_sizeOf_3 (by decide) ?_
    refine lv_icmp_ge (tgt := 22) C.1 C.2.1 dX0_sizeOf_4 (by decide) (fun c_1 => ?_) (fun c_1 => ?_)
    · have hE := br_p hE c_1
      exact bX0_sizeOf_22 C hkm hW hZ _ (lv_sub hl [1] rfl) hE
    · have hE := br_n hE c_1
      refine lv_iload_n C.1 C.2.1 dX0_sizeOf_7 rfl (lv_at hl 0 rfl) ?_
      refine lv_iload_n C.1 C.2.1 dX0_sizeOf_8 rfl (lv_at hl 1 rfl) ?_
      obtain ⟨o_2, eo_2, hE⟩ := cl_e hE
      refine x_kI (o := o_2) (z_runS (As := [.int x0, .int x1]) (rest := []) C (ct_X0_codeIn l X eo_2) cw_X0_123 hW hZ rfl hl.1 (Nat.le_of_ble_eq_true rfl) rfl dX0_sizeOf_9 ⟨Nat.le_of_ble_eq_true rfl, Nat.le_of_ble_eq_true rfl⟩ ⟨Nat.le_refl _, Nat.le_refl _⟩) hZ (fun _ _ hW km hZ => ?_)
      replace hkm := hkm.tr km
      refine lv_iconst (v := (-1 : Int32)) C.1 C.2.1 dX0_sizeOf_12 (by decide) ?_
      refine lv_icmp_eq (tgt := 22) C.1 C.2.1 dX0_sizeOf_13 (by decide) (fun c_3 => ?_) (fun c_3 => ?_)
      · have hE := br_p hE c_3
        exact bX0_sizeOf_22 C hkm hW hZ _ (lv_sub hl [1] rfl) hE
      · have hE := br_n hE c_3
        obtain ⟨v_4, ev_4, hE⟩ := nm_e2 hE
        refine lv_iinc (v := v_4) (lv' := [(1, .int v_4), (0, .int x0)]) C.1 C.2.1 dX0_sizeOf_16 hl (k := 1) rfl (by rw [ev_4]; rfl) (by decide) rfl (fun ls hl => ?_)
        refine lv_goto (tgt := 2) C.1 C.2.1 dX0_sizeOf_19 (by decide) ?_
        exact hk_2 _ _ _ _ _ hkm hW hZ _ (lv_sub hl [1, 0] rfl) hE
set_option maxRecDepth 20000 in
theorem ct_X0_sizeOf (l : Launch) (X : Ec) (F : Nat) {h : Hp} {x0 : Int32} {o : Int32 × Hp} (hE : sX0_sizeOf F h x0 = some o) : MetI l yX0_sizeOf cX0_sizeOf 2 (some .int) 1 21 X [.int x0] h o := by
  refine x_met (by decide) (Nat.le_of_ble_eq_true rfl) ?_
  intro p e s m below meth c ls C hl hW hZ
  have hl : lv_has ls 2 [(0, .int x0)] := hl
  have hkm : Km h h := Km.rf h
  refine lv_iconst (v := (0 : Int32)) C.1 C.2.1 dX0_sizeOf_0 (by decide) ?_
  refine lv_istore_n (lv' := [(1, .int (0 : Int32)), (0, .int x0)]) C.1 C.2.1 dX0_sizeOf_1 rfl hl (by decide) rfl (fun ls hl => ?_)
  exact bX0_sizeOf_2 C F hkm hW hZ _ (lv_sub hl [1, 0] rfl) hE
set_option maxRecDepth 100000 in
theorem m_466 : Cond.fieldLink RX0 129 (TX0 9).1 (TX0 9).2.1 (TX0 9).2.2.1 ∈ W0 := w0_in (List.mem_append_right _ (List.mem_of_getElem? (i := 466) rfl)) rfl
set_option maxRecDepth 100000 in
theorem m_478 : Cond.fieldLink RX0 119 (TX0 18).1 (TX0 18).2.1 (TX0 18).2.2.1 ∈ W0 := w0_in (List.mem_append_right _ (List.mem_of_getElem? (i := 478) rfl)) rfl
set_option maxRecDepth 100000 in
theorem m_1620 : Cond.constantLong RX0 155 (2 : Int64) ∈ W0 := w0_in (List.mem_append_right _ (List.mem_of_getElem? (i := 1620) rfl)) rfl
set_option maxRecDepth 100000 in
theorem m_1621 : Cond.methodLink RX0 143 yX0_sizeOf ∈ W0 := w0_in (List.mem_append_right _ (List.mem_of_getElem? (i := 1621) rfl)) rfl
set_option maxRecDepth 100000 in
theorem m_1622 : Cond.static yX0_sizeOf ∈ W0 := w0_in (List.mem_append_right _ (List.mem_of_getElem? (i := 1622) rfl)) rfl
set_option maxRecDepth 100000 in
theorem m_1623 : Cond.code yX0_sizeOf cX0_sizeOf 2 (some .int) ∈ W0 := w0_in (List.mem_append_right _ (List.mem_of_getElem? (i := 1623) rfl)) rfl
set_option maxRecDepth 100000 in
theorem m_1627 : Cond.constantLong RX0 135 (600000 : Int64) ∈ W0 := w0_in (List.mem_append_right _ (List.mem_of_getElem? (i := 1627) rfl)) rfl
section
variable {p : Program} {l : Launch} {e : Env} {R : Room} {s : State} {m : MethodId} {args : Array Value} {below : List Frame} {meth : Method} {c : Code} {H : Heap} {locs : List Loc} {cells slots : Nat} {Q : State → Prop}
variable {cc : ByteArray} {pc : Nat} {ls : Array Slot} {rest : List Value} {X : Ec} {h h1 : Hp} {nL : Nat} {rt : Option FieldType} {mn : String}
theorem gf_X0_129 {a : Nat} (C : Cx X p s m args meth c RX0 cc nL rt mn) (hW : Wx X h H) (ha : hK h a = 0) (hdg : decode cc pc = .ok (.getfield 129, 3)) (kk : W p l e R s m args below meth c H locs cells slots Q (F0 m (pc + 3) ls (.int (hI h a 9) :: rest))) : W p l e R s m args below meth c H locs cells slots Q (F0 m pc ls (.ref a :: rest)) :=
  y_geti C hW ha i_X0 (by decide) rfl (by decide) m_466 rfl hdg kk
theorem gf_X0_119 {a : Nat} (C : Cx X p s m args meth c RX0 cc nL rt mn) (hW : Wx X h H) (ha : hK h a = 0) (hdg : decode cc pc = .ok (.getfield 119, 3)) (kk : W p l e R s m args below meth c H locs cells slots Q (F0 m (pc + 3) ls (.long (hJ h a 18) :: rest))) : W p l e R s m args below meth c H locs cells slots Q (F0 m pc ls (.ref a :: rest)) :=
  y_getj C hW ha i_X0 (by decide) rfl (by decide) m_478 rfl hdg kk
theorem gf_X0_25 {a r : Nat} (C : Cx X p s m args meth c RX0 cc nL rt mn) (hW : Wx X h H) (ha : hK h a = 0) (hr : hR h a 6 = some r) (hdg : decode cc pc = .ok (.getfield 25, 3)) (kk : hK h r = 17 → W p l e R s m args below meth c H locs cells slots Q (F0 m (pc + 3) ls (.ref r :: rest))) : W p l e R s m args below meth c H locs cells slots Q (F0 m pc ls (.ref a :: rest)) :=
  y_getr C hW ha i_X0 (by decide) rfl (by decide) m_463 rfl rfl hr hdg kk
theorem pf_X0_119 {a : Nat} {v : Int64} (C : Cx X p s m args meth c RX0 cc nL rt mn) (hW : Wx X h H) (hZ : va_S (aA (eB X)) s.heap H locs) (ha : hK h a = 0) (eh : h1 = wJ h a 18 v) (hdg : decode cc pc = .ok (.putfield 119, 3)) (kk : ∀ (H1 : Heap) (locs1 : List Loc), Wx X h1 H1 → Km h h1 → va_S (aA (eB X)) s.heap H1 locs1 → W p l e R s m args below meth c H1 locs1 cells slots Q (F0 m (pc + 3) ls rest)) : W p l e R s m args below meth c H locs cells slots Q (F0 m pc ls (.long v :: .ref a :: rest)) :=
  y_putj C hW hZ ha i_X0 tyX0 tyX0_ok nmX0 (by decide) rfl rfl (by decide) m_478 rfl (by decide +kernel) rfl eh hdg kk
theorem gf_X0_18 {a r : Nat} (C : Cx X p s m args meth c RX0 cc nL rt mn) (hW : Wx X h H) (ha : hK h a = 0) (hr : hR h a 4 = some r) (hdg : decode cc pc = .ok (.getfield 18, 3)) (kk : hK h r = 17 → W p l e R s m args below meth c H locs cells slots Q (F0 m (pc + 3) ls (.ref r :: rest))) : W p l e R s m args below meth c H locs cells slots Q (F0 m pc ls (.ref a :: rest)) :=
  y_getr C hW ha i_X0 (by decide) rfl (by decide) m_461 rfl rfl hr hdg kk
theorem pf_X0_129 {a : Nat} {v : Int32} (C : Cx X p s m args meth c RX0 cc nL rt mn) (hW : Wx X h H) (hZ : va_S (aA (eB X)) s.heap H locs) (ha : hK h a = 0) (eh : h1 = wI h a 9 v) (hdg : decode cc pc = .ok (.putfield 129, 3)) (kk : ∀ (H1 : Heap) (locs1 : List Loc), Wx X h1 H1 → Km h h1 → va_S (aA (eB X)) s.heap H1 locs1 → W p l e R s m args below meth c H1 locs1 cells slots Q (F0 m (pc + 3) ls rest)) : W p l e R s m args below meth c H locs cells slots Q (F0 m pc ls (.int v :: .ref a :: rest)) :=
  y_puti (ty := .int) C hW hZ ha i_X0 tyX0 tyX0_ok nmX0 (by decide) rfl rfl (by decide) m_466 rfl (by decide +kernel) rfl rfl rfl eh hdg kk
end
theorem cw_X0_143 : cwd RX0 143 yX0_sizeOf cX0_sizeOf 2 (some .int) true 1 := ⟨m_1623, m_1621, m_13, m_1622, by decide, by decide, by decide +kernel⟩
theorem dX0_addSet_0 : decode cX0_addSet 0 = .ok (.iconst 0, 1) := by decide +kernel
theorem dX0_addSet_1 : decode cX0_addSet 1 = .ok (.istore_n 2, 1) := by decide +kernel
theorem dX0_addSet_2 : decode cX0_addSet 2 = .ok (.iload_n 2, 1) := by decide +kernel
theorem dX0_addSet_3 : decode cX0_addSet 3 = .ok (.aload_n 0, 1) := by decide +kernel
theorem dX0_addSet_4 : decode cX0_addSet 4 = .ok (.getfield 129, 3) := by decide +kernel
theorem dX0_addSet_7 : decode cX0_addSet 7 = .ok (.if_icmp .ge 20, 3) := by decide +kernel
theorem dX0_addSet_10 : decode cX0_addSet 10 = .ok (.aload_n 0, 1) := by decide +kernel
theorem dX0_addSet_11 : decode cX0_addSet 11 = .ok (.getfield 18, 3) := by decide +kernel
theorem dX0_addSet_14 : decode cX0_addSet 14 = .ok (.iload_n 2, 1) := by decide +kernel
theorem dX0_addSet_15 : decode cX0_addSet 15 = .ok (.iaload, 1) := by decide +kernel
theorem dX0_addSet_16 : decode cX0_addSet 16 = .ok (.iload_n 1, 1) := by decide +kernel
theorem dX0_addSet_17 : decode cX0_addSet 17 = .ok (.if_icmp .ne 4, 3) := by decide +kernel
theorem dX0_addSet_20 : decode cX0_addSet 20 = .ok (.return_, 1) := by decide +kernel
theorem dX0_addSet_21 : decode cX0_addSet 21 = .ok (.iinc 2 1, 3) := by decide +kernel
theorem dX0_addSet_24 : decode cX0_addSet 24 = .ok (.goto (-22), 3) := by decide +kernel
theorem dX0_addSet_27 : decode cX0_addSet 27 = .ok (.aload_n 0, 1) := by decide +kernel
theorem dX0_addSet_28 : decode cX0_addSet 28 = .ok (.dup, 1) := by decide +kernel
theorem dX0_addSet_29 : decode cX0_addSet 29 = .ok (.getfield 119, 3) := by decide +kernel
theorem dX0_addSet_32 : decode cX0_addSet 32 = .ok (.ldc2_w 155, 3) := by decide +kernel
theorem dX0_addSet_35 : decode cX0_addSet 35 = .ok (.aload_n 0, 1) := by decide +kernel
theorem dX0_addSet_36 : decode cX0_addSet 36 = .ok (.getfield 25, 3) := by decide +kernel
theorem dX0_addSet_39 : decode cX0_addSet 39 = .ok (.iload_n 1, 1) := by decide +kernel
theorem dX0_addSet_40 : decode cX0_addSet 40 = .ok (.invokestatic 143, 3) := by decide +kernel
theorem dX0_addSet_43 : decode cX0_addSet 43 = .ok (.iaload, 1) := by decide +kernel
theorem dX0_addSet_44 : decode cX0_addSet 44 = .ok (.i2l, 1) := by decide +kernel
theorem dX0_addSet_45 : decode cX0_addSet 45 = .ok (.lmul, 1) := by decide +kernel
theorem dX0_addSet_46 : decode cX0_addSet 46 = .ok (.ladd, 1) := by decide +kernel
theorem dX0_addSet_47 : decode cX0_addSet 47 = .ok (.putfield 119, 3) := by decide +kernel
theorem dX0_addSet_50 : decode cX0_addSet 50 = .ok (.aload_n 0, 1) := by decide +kernel
theorem dX0_addSet_51 : decode cX0_addSet 51 = .ok (.getfield 119, 3) := by decide +kernel
theorem dX0_addSet_54 : decode cX0_addSet 54 = .ok (.ldc2_w 135, 3) := by decide +kernel
theorem dX0_addSet_57 : decode cX0_addSet 57 = .ok (.lcmp, 1) := by decide +kernel
theorem dX0_addSet_58 : decode cX0_addSet 58 = .ok (.ifCond .gt 33, 3) := by decide +kernel
theorem dX0_addSet_61 : decode cX0_addSet 61 = .ok (.aload_n 0, 1) := by decide +kernel
theorem dX0_addSet_62 : decode cX0_addSet 62 = .ok (.getfield 129, 3) := by decide +kernel
theorem dX0_addSet_65 : decode cX0_addSet 65 = .ok (.sipush 1024, 3) := by decide +kernel
theorem dX0_addSet_68 : decode cX0_addSet 68 = .ok (.if_icmp .ge 23, 3) := by decide +kernel
theorem dX0_addSet_71 : decode cX0_addSet 71 = .ok (.aload_n 0, 1) := by decide +kernel
theorem dX0_addSet_72 : decode cX0_addSet 72 = .ok (.getfield 18, 3) := by decide +kernel
theorem dX0_addSet_75 : decode cX0_addSet 75 = .ok (.aload_n 0, 1) := by decide +kernel
theorem dX0_addSet_76 : decode cX0_addSet 76 = .ok (.getfield 129, 3) := by decide +kernel
theorem dX0_addSet_79 : decode cX0_addSet 79 = .ok (.iload_n 1, 1) := by decide +kernel
theorem dX0_addSet_80 : decode cX0_addSet 80 = .ok (.iastore, 1) := by decide +kernel
theorem dX0_addSet_81 : decode cX0_addSet 81 = .ok (.aload_n 0, 1) := by decide +kernel
theorem dX0_addSet_82 : decode cX0_addSet 82 = .ok (.dup, 1) := by decide +kernel
theorem dX0_addSet_83 : decode cX0_addSet 83 = .ok (.getfield 129, 3) := by decide +kernel
theorem dX0_addSet_86 : decode cX0_addSet 86 = .ok (.iconst 1, 1) := by decide +kernel
theorem dX0_addSet_87 : decode cX0_addSet 87 = .ok (.iadd, 1) := by decide +kernel
theorem dX0_addSet_88 : decode cX0_addSet 88 = .ok (.putfield 129, 3) := by decide +kernel
theorem dX0_addSet_91 : decode cX0_addSet 91 = .ok (.return_, 1) := by decide +kernel
set_option maxRecDepth 20000 in
theorem moX0_addSet_91 {o : Hp} {F : Nat} {h : Hp} (hE : sX0_addSet_91 F h  = some o) : Le h o := by
  exact le_some1 hE
set_option maxRecDepth 20000 in
theorem moX0_addSet_2 {o : Hp} {F : Nat} : ∀ (f : Nat) {h : Hp} {x0 : Nat} {x1 : Int32} {x2 : Int32}, sX0_addSet_2 F f h x0 x1 x2 = some o → Le h o := by
  intro f
  induction f with
  | zero =>
    intro h x0 x1 x2 hE
    rw [sX0_addSet_2] at hE
    cases hE
  | succ f ih =>
    intro h x0 x1 x2 hE
    rw [sX0_addSet_2] at hE
    have mk_2 : ∀ (h : Hp) (x0 : Nat) (x1 : Int32) (x2 : Int32), sX0_addSet_2 F f h x0 x1 x2 = some o → Le h o := fun h x0 x1 x2 hE => ih hE
    rcases br_e hE with ⟨_, hE⟩ | ⟨_, hE⟩
    · obtain ⟨r_2, er_2, hE⟩ := cl_e hE
      obtain ⟨o_3, eo_3, hE⟩ := cl_e hE
      refine (moX0_sizeOf eo_3).tr ?_
      obtain ⟨g_4, hE⟩ := gd_e hE
      obtain ⟨h_5, eh_5, hE⟩ := nm_e2 hE
      refine (le_J eh_5).tr ?_
      rcases br_e hE with ⟨_, hE⟩ | ⟨_, hE⟩
      · exact moX0_addSet_91 hE
      · rcases br_e hE with ⟨_, hE⟩ | ⟨_, hE⟩
        · exact moX0_addSet_91 hE
        · obtain ⟨r_8, er_8, hE⟩ := cl_e hE
          obtain ⟨g_9, hE⟩ := gd_e hE
          obtain ⟨h_10, eh_10, hE⟩ := nm_e2 hE
          refine (le_I eh_10).tr ?_
          obtain ⟨h_11, eh_11, hE⟩ := nm_e2 hE
          refine (le_I eh_11).tr ?_
          exact moX0_addSet_91 hE
    · obtain ⟨r_12, er_12, hE⟩ := cl_e hE
      obtain ⟨g_13, hE⟩ := gd_e hE
      rcases br_e hE with ⟨_, hE⟩ | ⟨_, hE⟩
      · exact le_some1 hE
      · obtain ⟨v_15, ev_15, hE⟩ := nm_e2 hE
        exact mk_2 _ _ _ _ hE
set_option maxRecDepth 20000 in
theorem moX0_addSet {o : Hp} {F : Nat} {h : Hp} {x0 : Nat} {x1 : Int32} (hE : sX0_addSet F h x0 x1 = some o) : Le h o := by
  exact moX0_addSet_2 _ hE
set_option maxRecDepth 20000 in
theorem bX0_addSet_91 {p : Program} {l : Launch} {e : Env} {s : State} {m : MethodId} {args : Array Value} {below : List Frame} {meth : Method} {c : Code} {X : Ec} {h0 : Hp} {o : Hp} {F : Nat} (C : Cx X p s m args meth c RX0 cX0_addSet 3 none "addSet") {h : Hp} {H : Heap} {locs : List Loc} (hkm : Km h0 h) (hW : Wx X h H) (hZ : va_S (aA (eB X)) s.heap H locs) (ls : Array Slot) (hl : lv_has ls 3 []) (hE : sX0_addSet_91 F h  = some o) : W p l e (rm 2 42) s m args below meth c H locs 0 0 (MQ below (QV X h0 o) args s 0 0 (aA (eB X))) (F0 m 91 ls []) := by
  exact x_vret C rfl hW hZ hkm hE dX0_addSet_91
set_option maxRecDepth 20000 in
theorem bX0_addSet_2 {p : Program} {l : Launch} {e : Env} {s : State} {m : MethodId} {args : Array Value} {below : List Frame} {meth : Method} {c : Code} {X : Ec} {h0 : Hp} {o : Hp} {F : Nat} (C : Cx X p s m args meth c RX0 cX0_addSet 3 none "addSet") : ∀ (f : Nat) {h : Hp} {x0 : Nat} {x1 : Int32} {x2 : Int32} {H : Heap} {locs : List Loc} (k_x0 : hK h x0 = 0), Km h0 h → Wx X h H → va_S (aA (eB X)) s.heap H locs → ∀ (ls : Array Slot), lv_has ls 3 [(0, .ref x0), (1, .int x1), (2, .int x2)] → sX0_addSet_2 F f h x0 x1 x2 = some o → W p l e (rm 2 42) s m args below meth c H locs 0 0 (MQ below (QV X h0 o) args s 0 0 (aA (eB X))) (F0 m 2 ls []) := by
  intro f
  induction f with
  | zero =>
    intro h x0 x1 x2 H locs k_x0 hkm hW hZ ls hl hE
    rw [sX0_addSet_2] at hE
    cases hE
  | succ f ih =>
    intro h x0 x1 x2 H locs k_x0 hkm hW hZ ls hl hE
    rw [sX0_addSet_2] at hE
    have hk_2 : ∀ (h : Hp) (x0 : Nat) (x1 : Int32) (x2 : Int32) (H : Heap) (locs : List Loc), hK h x0 = 0 → Km h0 h → Wx X h H → va_S (aA (eB X)) s.heap H locs → ∀ (ls : Array Slot), lv_has ls 3 [(0, .ref x0), (1, .int x1), (2, .int x2)] → sX0_addSet_2 F f h x0 x1 x2 = some o → W p l e (rm 2 42) s m args below meth c H locs 0 0 (MQ below (QV X h0 o) args s 0 0 (aA (eB X))) (F0 m 2 ls []) := fun h x0 x1 x2 H locs k_x0 a b c ls hl hE => ih k_x0 a b c ls hl hE
    refine lv_iload_n C.1 C.2.1 dX0_addSet_2 rfl (lv_at hl 2 rfl) ?_
    refine lv_aload_n C.1 C.2.1 dX0_addSet_3 rfl (lv_at hl 0 rfl) ?_
    refine gf_X0_129 C hW k_x0 dX0_addSet_4 ?_
    refine lv_icmp_ge (tgt := 27) C.1 C.2.1 dX0_addSet_7 (by decide) (fun c_1 => ?_) (fun c_1 => ?_)
    · have hE := br_p hE c_1
      refine lv_aload_n C.1 C.2.1 dX0_addSet_27 rfl (lv_at hl 0 rfl) ?_
      refine lv_dup C.1 C.2.1 dX0_addSet_28 rfl ?_
      refine gf_X0_119 C hW k_x0 dX0_addSet_29 ?_
      refine lv_ldc2 (v := (2 : Int64)) C.1 C.2.1 C.2.2.2.1 (C.2.2.2.2.1 _ m_1620) dX0_addSet_32 ?_
      refine lv_aload_n C.1 C.2.1 dX0_addSet_35 rfl (lv_at hl 0 rfl) ?_
      obtain ⟨r_2, er_2, hE⟩ := cl_e hE
      refine gf_X0_25 C hW k_x0 er_2 dX0_addSet_36 (fun k_r_2 => ?_)
      refine lv_iload_n C.1 C.2.1 dX0_addSet_39 rfl (lv_at hl 1 rfl) ?_
      obtain ⟨o_3, eo_3, hE⟩ := cl_e hE
      refine x_kI (o := o_3) (z_runS (As := [.int x1]) (rest := [.ref r_2, .long (2 : Int64), .long (hJ h x0 18), .ref x0]) C (ct_X0_sizeOf l X F eo_3) cw_X0_143 hW hZ rfl hl.1 (Nat.le_of_ble_eq_true rfl) rfl dX0_addSet_40 ⟨Nat.le_of_ble_eq_true rfl, Nat.le_of_ble_eq_true rfl⟩ ⟨Nat.le_refl _, Nat.le_refl _⟩) hZ (fun _ _ hW km hZ => ?_)
      replace hkm := hkm.tr km
      replace k_x0 := km.at k_x0 (by decide)
      replace k_r_2 := km.at k_r_2 (by decide)
      obtain ⟨g_4, hE⟩ := gd_e hE
      refine y_iald C hW k_r_2 g_4 dX0_addSet_43 ?_
      refine lv_i2l C.1 C.2.1 dX0_addSet_44 rfl ?_
      refine lv_lmul C.1 C.2.1 dX0_addSet_45 ?_
      refine lv_ladd C.1 C.2.1 dX0_addSet_46 ?_
      obtain ⟨h_5, eh_5, hE⟩ := nm_e2 hE
      refine pf_X0_119 C hW hZ k_x0 eh_5 dX0_addSet_47 (fun _ _ hW km hZ => ?_)
      replace hkm := hkm.tr km
      replace k_x0 := km.at k_x0 (by decide)
      refine lv_aload_n C.1 C.2.1 dX0_addSet_50 rfl (lv_at hl 0 rfl) ?_
      refine gf_X0_119 C hW k_x0 dX0_addSet_51 ?_
      refine lv_ldc2 (v := (600000 : Int64)) C.1 C.2.1 C.2.2.2.1 (C.2.2.2.2.1 _ m_1627) dX0_addSet_54 ?_
      refine W.lcmp C.1 C.2.1 dX0_addSet_57 ?_
      refine lv_if_gt (tgt := 91) C.1 C.2.1 dX0_addSet_58 (by decide) (fun c_6 => ?_) (fun c_6 => ?_)
      · have hE := br_p hE c_6
        exact bX0_addSet_91 C hkm hW hZ _ (lv_sub hl [] rfl) hE
      · have hE := br_n hE c_6
        refine lv_aload_n C.1 C.2.1 dX0_addSet_61 rfl (lv_at hl 0 rfl) ?_
        refine gf_X0_129 C hW k_x0 dX0_addSet_62 ?_
        refine lv_sipush (v := (1024 : Int32)) C.1 C.2.1 dX0_addSet_65 (by decide) ?_
        refine lv_icmp_ge (tgt := 91) C.1 C.2.1 dX0_addSet_68 (by decide) (fun c_7 => ?_) (fun c_7 => ?_)
        · have hE := br_p hE c_7
          exact bX0_addSet_91 C hkm hW hZ _ (lv_sub hl [] rfl) hE
        · have hE := br_n hE c_7
          refine lv_aload_n C.1 C.2.1 dX0_addSet_71 rfl (lv_at hl 0 rfl) ?_
          obtain ⟨r_8, er_8, hE⟩ := cl_e hE
          refine gf_X0_18 C hW k_x0 er_8 dX0_addSet_72 (fun k_r_8 => ?_)
          refine lv_aload_n C.1 C.2.1 dX0_addSet_75 rfl (lv_at hl 0 rfl) ?_
          refine gf_X0_129 C hW k_x0 dX0_addSet_76 ?_
          refine lv_iload_n C.1 C.2.1 dX0_addSet_79 rfl (lv_at hl 1 rfl) ?_
          obtain ⟨g_9, hE⟩ := gd_e hE
          obtain ⟨h_10, eh_10, hE⟩ := nm_e2 hE
          refine y_iast C hW hZ k_r_8 g_9 eh_10 dX0_addSet_80 (fun _ _ hW km hZ => ?_)
          replace hkm := hkm.tr km
          replace k_x0 := km.at k_x0 (by decide)
          refine lv_aload_n C.1 C.2.1 dX0_addSet_81 rfl (lv_at hl 0 rfl) ?_
          refine lv_dup C.1 C.2.1 dX0_addSet_82 rfl ?_
          refine gf_X0_129 C hW k_x0 dX0_addSet_83 ?_
          refine lv_iconst (v := (1 : Int32)) C.1 C.2.1 dX0_addSet_86 (by decide) ?_
          refine lv_iadd C.1 C.2.1 dX0_addSet_87 ?_
          obtain ⟨h_11, eh_11, hE⟩ := nm_e2 hE
          refine pf_X0_129 C hW hZ k_x0 eh_11 dX0_addSet_88 (fun _ _ hW km hZ => ?_)
          replace hkm := hkm.tr km
          replace k_x0 := km.at k_x0 (by decide)
          exact bX0_addSet_91 C hkm hW hZ _ (lv_sub hl [] rfl) hE
    · have hE := br_n hE c_1
      refine lv_aload_n C.1 C.2.1 dX0_addSet_10 rfl (lv_at hl 0 rfl) ?_
      obtain ⟨r_12, er_12, hE⟩ := cl_e hE
      refine gf_X0_18 C hW k_x0 er_12 dX0_addSet_11 (fun k_r_12 => ?_)
      refine lv_iload_n C.1 C.2.1 dX0_addSet_14 rfl (lv_at hl 2 rfl) ?_
      obtain ⟨g_13, hE⟩ := gd_e hE
      refine y_iald C hW k_r_12 g_13 dX0_addSet_15 ?_
      refine lv_iload_n C.1 C.2.1 dX0_addSet_16 rfl (lv_at hl 1 rfl) ?_
      refine lv_icmp_ne (tgt := 21) C.1 C.2.1 dX0_addSet_17 (by decide) (fun c_14 => ?_) (fun c_14 => ?_)
      · have hE := br_n hE c_14
        obtain ⟨v_15, ev_15, hE⟩ := nm_e2 hE
        refine lv_iinc (v := v_15) (lv' := [(2, .int v_15), (0, .ref x0), (1, .int x1)]) C.1 C.2.1 dX0_addSet_21 hl (k := 2) rfl (by rw [ev_15]; rfl) (by decide) rfl (fun ls hl => ?_)
        refine lv_goto (tgt := 2) C.1 C.2.1 dX0_addSet_24 (by decide) ?_
        exact hk_2 _ _ _ _ _ _ k_x0 hkm hW hZ _ (lv_sub hl [1, 2, 0] rfl) hE
      · have hE := br_p hE c_14
        exact x_vret C rfl hW hZ hkm hE dX0_addSet_20
set_option maxRecDepth 20000 in
theorem ct_X0_addSet (l : Launch) (X : Ec) (F : Nat) {h : Hp} {x0 : Nat} {x1 : Int32} {o : Hp} (k_x0 : hK h x0 = 0) (hE : sX0_addSet F h x0 x1 = some o) : MetV l yX0_addSet cX0_addSet 3 none 2 42 X [.ref x0, .int x1] h o := by
  refine x_met (by decide) (Nat.le_of_ble_eq_true rfl) ?_
  intro p e s m below meth c ls C hl hW hZ
  have hl : lv_has ls 3 [(0, .ref x0), (1, .int x1)] := hl
  have hkm : Km h h := Km.rf h
  refine lv_iconst (v := (0 : Int32)) C.1 C.2.1 dX0_addSet_0 (by decide) ?_
  refine lv_istore_n (lv' := [(2, .int (0 : Int32)), (0, .ref x0), (1, .int x1)]) C.1 C.2.1 dX0_addSet_1 rfl hl (by decide) rfl (fun ls hl => ?_)
  exact bX0_addSet_2 C F k_x0 hkm hW hZ _ (lv_sub hl [1, 2, 0] rfl) hE
theorem dX0_without_0 : decode cX0_without 0 = .ok (.iconst 5, 1) := by decide +kernel
theorem dX0_without_1 : decode cX0_without 1 = .ok (.iload_n 1, 1) := by decide +kernel
theorem dX0_without_2 : decode cX0_without 2 = .ok (.imul, 1) := by decide +kernel
theorem dX0_without_3 : decode cX0_without 3 = .ok (.istore_n 2, 1) := by decide +kernel
theorem dX0_without_4 : decode cX0_without 4 = .ok (.iload_n 0, 1) := by decide +kernel
theorem dX0_without_5 : decode cX0_without 5 = .ok (.iconst 1, 1) := by decide +kernel
theorem dX0_without_6 : decode cX0_without 6 = .ok (.iload_n 2, 1) := by decide +kernel
theorem dX0_without_7 : decode cX0_without 7 = .ok (.ishl, 1) := by decide +kernel
theorem dX0_without_8 : decode cX0_without 8 = .ok (.iconst 1, 1) := by decide +kernel
theorem dX0_without_9 : decode cX0_without 9 = .ok (.isub, 1) := by decide +kernel
theorem dX0_without_10 : decode cX0_without 10 = .ok (.iand, 1) := by decide +kernel
theorem dX0_without_11 : decode cX0_without 11 = .ok (.iload_n 0, 1) := by decide +kernel
theorem dX0_without_12 : decode cX0_without 12 = .ok (.iload_n 2, 1) := by decide +kernel
theorem dX0_without_13 : decode cX0_without 13 = .ok (.iconst 5, 1) := by decide +kernel
theorem dX0_without_14 : decode cX0_without 14 = .ok (.iadd, 1) := by decide +kernel
theorem dX0_without_15 : decode cX0_without 15 = .ok (.ishr, 1) := by decide +kernel
theorem dX0_without_16 : decode cX0_without 16 = .ok (.iload_n 2, 1) := by decide +kernel
theorem dX0_without_17 : decode cX0_without 17 = .ok (.ishl, 1) := by decide +kernel
theorem dX0_without_18 : decode cX0_without 18 = .ok (.ior, 1) := by decide +kernel
theorem dX0_without_19 : decode cX0_without 19 = .ok (.ireturn, 1) := by decide +kernel
set_option maxRecDepth 20000 in
theorem moX0_without {o : Int32 × Hp} {h : Hp} {x0 : Int32} {x1 : Int32} (hE : sX0_without h x0 x1 = some o) : Le h o.2 := by
  obtain ⟨v_1, ev_1, hE⟩ := nm_e2 hE
  exact le_some2 hE
set_option maxRecDepth 20000 in
theorem ct_X0_without (l : Launch) (X : Ec) {h : Hp} {x0 : Int32} {x1 : Int32} {o : Int32 × Hp} (hE : sX0_without h x0 x1 = some o) : MetI l yX0_without cX0_without 3 (some .int) 0 0 X [.int x0, .int x1] h o := by
  refine x_met (by decide) (Nat.le_of_ble_eq_true rfl) ?_
  intro p e s m below meth c ls C hl hW hZ
  have hl : lv_has ls 3 [(0, .int x0), (1, .int x1)] := hl
  have hkm : Km h h := Km.rf h
  refine lv_iconst (v := (5 : Int32)) C.1 C.2.1 dX0_without_0 (by decide) ?_
  refine lv_iload_n C.1 C.2.1 dX0_without_1 rfl (lv_at hl 1 rfl) ?_
  refine lv_imul C.1 C.2.1 dX0_without_2 ?_
  obtain ⟨v_1, ev_1, hE⟩ := nm_e2 hE
  refine x_nmI ev_1 ?_
  refine lv_istore_n (lv' := [(2, .int v_1), (0, .int x0), (1, .int x1)]) C.1 C.2.1 dX0_without_3 rfl hl (by decide) rfl (fun ls hl => ?_)
  refine lv_iload_n C.1 C.2.1 dX0_without_4 rfl (lv_at hl 1 rfl) ?_
  refine lv_iconst (v := (1 : Int32)) C.1 C.2.1 dX0_without_5 (by decide) ?_
  refine lv_iload_n C.1 C.2.1 dX0_without_6 rfl (lv_at hl 0 rfl) ?_
  refine lv_ishl C.1 C.2.1 dX0_without_7 ?_
  refine lv_iconst (v := (1 : Int32)) C.1 C.2.1 dX0_without_8 (by decide) ?_
  refine lv_isub C.1 C.2.1 dX0_without_9 ?_
  refine lv_iand C.1 C.2.1 dX0_without_10 ?_
  refine lv_iload_n C.1 C.2.1 dX0_without_11 rfl (lv_at hl 1 rfl) ?_
  refine lv_iload_n C.1 C.2.1 dX0_without_12 rfl (lv_at hl 0 rfl) ?_
  refine lv_iconst (v := (5 : Int32)) C.1 C.2.1 dX0_without_13 (by decide) ?_
  refine lv_iadd C.1 C.2.1 dX0_without_14 ?_
  refine lv_ishr C.1 C.2.1 dX0_without_15 ?_
  refine lv_iload_n C.1 C.2.1 dX0_without_16 rfl (lv_at hl 0 rfl) ?_
  refine lv_ishl C.1 C.2.1 dX0_without_17 ?_
  refine lv_ior C.1 C.2.1 dX0_without_18 ?_
  exact x_iret C rfl rfl hW hZ hkm hE dX0_without_19
set_option maxRecDepth 100000 in
theorem ms_90 : Cond.selects RX0 yX0_addSet yX0_addSet ∈ W0 := w0_in (List.mem_append_left _ (List.mem_of_getElem? (i := 90) rfl)) rfl
set_option maxRecDepth 100000 in
theorem m_128 : Cond.fieldLink RX0 152 (TX1 17).1 (TX1 17).2.1 (TX1 17).2.2.1 ∈ W0 := w0_in (List.mem_append_right _ (List.mem_of_getElem? (i := 128) rfl)) rfl
set_option maxRecDepth 100000 in
theorem m_132 : Cond.fieldLink RX0 149 (TX1 18).1 (TX1 18).2.1 (TX1 18).2.2.1 ∈ W0 := w0_in (List.mem_append_right _ (List.mem_of_getElem? (i := 132) rfl)) rfl
set_option maxRecDepth 100000 in
theorem m_1616 : Cond.methodLink RX0 132 yX0_addSet ∈ W0 := w0_in (List.mem_append_right _ (List.mem_of_getElem? (i := 1616) rfl)) rfl
set_option maxRecDepth 100000 in
theorem m_1618 : Cond.instanceMethod yX0_addSet ∈ W0 := w0_in (List.mem_append_right _ (List.mem_of_getElem? (i := 1618) rfl)) rfl
set_option maxRecDepth 100000 in
theorem m_1619 : Cond.code yX0_addSet cX0_addSet 3 none ∈ W0 := w0_in (List.mem_append_right _ (List.mem_of_getElem? (i := 1619) rfl)) rfl
set_option maxRecDepth 100000 in
theorem m_1632 : Cond.methodLink RX0 146 yX0_without ∈ W0 := w0_in (List.mem_append_right _ (List.mem_of_getElem? (i := 1632) rfl)) rfl
set_option maxRecDepth 100000 in
theorem m_1633 : Cond.static yX0_without ∈ W0 := w0_in (List.mem_append_right _ (List.mem_of_getElem? (i := 1633) rfl)) rfl
set_option maxRecDepth 100000 in
theorem m_1634 : Cond.code yX0_without cX0_without 3 (some .int) ∈ W0 := w0_in (List.mem_append_right _ (List.mem_of_getElem? (i := 1634) rfl)) rfl
section
variable {p : Program} {l : Launch} {e : Env} {R : Room} {s : State} {m : MethodId} {args : Array Value} {below : List Frame} {meth : Method} {c : Code} {H : Heap} {locs : List Loc} {cells slots : Nat} {Q : State → Prop}
variable {cc : ByteArray} {pc : Nat} {ls : Array Slot} {rest : List Value} {X : Ec} {h h1 : Hp} {nL : Nat} {rt : Option FieldType} {mn : String}
theorem gf_X0_149 {a r : Nat} (C : Cx X p s m args meth c RX0 cc nL rt mn) (hW : Wx X h H) (ha : hK h a = 1) (hr : hR h a 18 = some r) (hdg : decode cc pc = .ok (.getfield 149, 3)) (kk : hK h r = 17 → W p l e R s m args below meth c H locs cells slots Q (F0 m (pc + 3) ls (.ref r :: rest))) : W p l e R s m args below meth c H locs cells slots Q (F0 m pc ls (.ref a :: rest)) :=
  y_getr C hW ha i_X1 (by decide) rfl (by decide) m_132 rfl rfl hr hdg kk
theorem gf_X0_152 {a r : Nat} (C : Cx X p s m args meth c RX0 cc nL rt mn) (hW : Wx X h H) (ha : hK h a = 1) (hr : hR h a 17 = some r) (hdg : decode cc pc = .ok (.getfield 152, 3)) (kk : hK h r = 17 → W p l e R s m args below meth c H locs cells slots Q (F0 m (pc + 3) ls (.ref r :: rest))) : W p l e R s m args below meth c H locs cells slots Q (F0 m pc ls (.ref a :: rest)) :=
  y_getr C hW ha i_X1 (by decide) rfl (by decide) m_128 rfl rfl hr hdg kk
end
theorem cw_X0_132 : cwd RX0 132 yX0_addSet cX0_addSet 3 none false 1 := ⟨m_1619, m_1616, m_13, ⟨m_1618, ms_90⟩, by decide, by decide, by decide +kernel⟩
theorem cw_X0_146 : cwd RX0 146 yX0_without cX0_without 3 (some .int) true 2 := ⟨m_1634, m_1632, m_13, m_1633, by decide, by decide, by decide +kernel⟩
theorem dX0_addSetsOf_0 : decode cX0_addSetsOf 0 = .ok (.iconst 0, 1) := by decide +kernel
theorem dX0_addSetsOf_1 : decode cX0_addSetsOf 1 = .ok (.istore_n 2, 1) := by decide +kernel
theorem dX0_addSetsOf_2 : decode cX0_addSetsOf 2 = .ok (.iload_n 2, 1) := by decide +kernel
theorem dX0_addSetsOf_3 : decode cX0_addSetsOf 3 = .ok (.iload_n 1, 1) := by decide +kernel
theorem dX0_addSetsOf_4 : decode cX0_addSetsOf 4 = .ok (.invokestatic 143, 3) := by decide +kernel
theorem dX0_addSetsOf_7 : decode cX0_addSetsOf 7 = .ok (.if_icmp .ge 103, 3) := by decide +kernel
theorem dX0_addSetsOf_10 : decode cX0_addSetsOf 10 = .ok (.iload_n 1, 1) := by decide +kernel
theorem dX0_addSetsOf_11 : decode cX0_addSetsOf 11 = .ok (.iload_n 2, 1) := by decide +kernel
theorem dX0_addSetsOf_12 : decode cX0_addSetsOf 12 = .ok (.invokestatic 123, 3) := by decide +kernel
theorem dX0_addSetsOf_15 : decode cX0_addSetsOf 15 = .ok (.istore_n 3, 1) := by decide +kernel
theorem dX0_addSetsOf_16 : decode cX0_addSetsOf 16 = .ok (.iload_n 3, 1) := by decide +kernel
theorem dX0_addSetsOf_17 : decode cX0_addSetsOf 17 = .ok (.iconst 1, 1) := by decide +kernel
theorem dX0_addSetsOf_18 : decode cX0_addSetsOf 18 = .ok (.ishr, 1) := by decide +kernel
theorem dX0_addSetsOf_19 : decode cX0_addSetsOf 19 = .ok (.istore 4, 2) := by decide +kernel
theorem dX0_addSetsOf_21 : decode cX0_addSetsOf 21 = .ok (.iload 4, 2) := by decide +kernel
theorem dX0_addSetsOf_23 : decode cX0_addSetsOf 23 = .ok (.aload_n 0, 1) := by decide +kernel
theorem dX0_addSetsOf_24 : decode cX0_addSetsOf 24 = .ok (.getfield 40, 3) := by decide +kernel
theorem dX0_addSetsOf_27 : decode cX0_addSetsOf 27 = .ok (.getfield 67, 3) := by decide +kernel
theorem dX0_addSetsOf_30 : decode cX0_addSetsOf 30 = .ok (.if_icmp .ne 6, 3) := by decide +kernel
theorem dX0_addSetsOf_33 : decode cX0_addSetsOf 33 = .ok (.goto 71, 3) := by decide +kernel
theorem dX0_addSetsOf_36 : decode cX0_addSetsOf 36 = .ok (.iload_n 1, 1) := by decide +kernel
theorem dX0_addSetsOf_37 : decode cX0_addSetsOf 37 = .ok (.iload_n 2, 1) := by decide +kernel
theorem dX0_addSetsOf_38 : decode cX0_addSetsOf 38 = .ok (.invokestatic 146, 3) := by decide +kernel
theorem dX0_addSetsOf_41 : decode cX0_addSetsOf 41 = .ok (.istore 5, 2) := by decide +kernel
theorem dX0_addSetsOf_43 : decode cX0_addSetsOf 43 = .ok (.aload_n 0, 1) := by decide +kernel
theorem dX0_addSetsOf_44 : decode cX0_addSetsOf 44 = .ok (.iload 5, 2) := by decide +kernel
theorem dX0_addSetsOf_46 : decode cX0_addSetsOf 46 = .ok (.invokevirtual 132, 3) := by decide +kernel
theorem dX0_addSetsOf_49 : decode cX0_addSetsOf 49 = .ok (.iconst 0, 1) := by decide +kernel
theorem dX0_addSetsOf_50 : decode cX0_addSetsOf 50 = .ok (.istore 6, 2) := by decide +kernel
theorem dX0_addSetsOf_52 : decode cX0_addSetsOf 52 = .ok (.iload 6, 2) := by decide +kernel
theorem dX0_addSetsOf_54 : decode cX0_addSetsOf 54 = .ok (.aload_n 0, 1) := by decide +kernel
theorem dX0_addSetsOf_55 : decode cX0_addSetsOf 55 = .ok (.getfield 40, 3) := by decide +kernel
theorem dX0_addSetsOf_58 : decode cX0_addSetsOf 58 = .ok (.getfield 149, 3) := by decide +kernel
theorem dX0_addSetsOf_61 : decode cX0_addSetsOf 61 = .ok (.iload 4, 2) := by decide +kernel
theorem dX0_addSetsOf_63 : decode cX0_addSetsOf 63 = .ok (.iaload, 1) := by decide +kernel
theorem dX0_addSetsOf_64 : decode cX0_addSetsOf 64 = .ok (.if_icmp .ge 40, 3) := by decide +kernel
theorem dX0_addSetsOf_67 : decode cX0_addSetsOf 67 = .ok (.aload_n 0, 1) := by decide +kernel
theorem dX0_addSetsOf_68 : decode cX0_addSetsOf 68 = .ok (.iload 5, 2) := by decide +kernel
theorem dX0_addSetsOf_70 : decode cX0_addSetsOf 70 = .ok (.iconst 2, 1) := by decide +kernel
theorem dX0_addSetsOf_71 : decode cX0_addSetsOf 71 = .ok (.aload_n 0, 1) := by decide +kernel
theorem dX0_addSetsOf_72 : decode cX0_addSetsOf 72 = .ok (.getfield 40, 3) := by decide +kernel
theorem dX0_addSetsOf_75 : decode cX0_addSetsOf 75 = .ok (.getfield 152, 3) := by decide +kernel
theorem dX0_addSetsOf_78 : decode cX0_addSetsOf 78 = .ok (.iload 4, 2) := by decide +kernel
theorem dX0_addSetsOf_80 : decode cX0_addSetsOf 80 = .ok (.bipush 6, 2) := by decide +kernel
theorem dX0_addSetsOf_82 : decode cX0_addSetsOf 82 = .ok (.imul, 1) := by decide +kernel
theorem dX0_addSetsOf_83 : decode cX0_addSetsOf 83 = .ok (.iload 6, 2) := by decide +kernel
theorem dX0_addSetsOf_85 : decode cX0_addSetsOf 85 = .ok (.iadd, 1) := by decide +kernel
theorem dX0_addSetsOf_86 : decode cX0_addSetsOf 86 = .ok (.iaload, 1) := by decide +kernel
theorem dX0_addSetsOf_87 : decode cX0_addSetsOf 87 = .ok (.imul, 1) := by decide +kernel
theorem dX0_addSetsOf_88 : decode cX0_addSetsOf 88 = .ok (.iload_n 3, 1) := by decide +kernel
theorem dX0_addSetsOf_89 : decode cX0_addSetsOf 89 = .ok (.iconst 1, 1) := by decide +kernel
theorem dX0_addSetsOf_90 : decode cX0_addSetsOf 90 = .ok (.iand, 1) := by decide +kernel
theorem dX0_addSetsOf_91 : decode cX0_addSetsOf 91 = .ok (.iadd, 1) := by decide +kernel
theorem dX0_addSetsOf_92 : decode cX0_addSetsOf 92 = .ok (.invokestatic 70, 3) := by decide +kernel
theorem dX0_addSetsOf_95 : decode cX0_addSetsOf 95 = .ok (.invokevirtual 132, 3) := by decide +kernel
theorem dX0_addSetsOf_98 : decode cX0_addSetsOf 98 = .ok (.iinc 6 1, 3) := by decide +kernel
theorem dX0_addSetsOf_101 : decode cX0_addSetsOf 101 = .ok (.goto (-49), 3) := by decide +kernel
theorem dX0_addSetsOf_104 : decode cX0_addSetsOf 104 = .ok (.iinc 2 1, 3) := by decide +kernel
theorem dX0_addSetsOf_107 : decode cX0_addSetsOf 107 = .ok (.goto (-105), 3) := by decide +kernel
theorem dX0_addSetsOf_110 : decode cX0_addSetsOf 110 = .ok (.return_, 1) := by decide +kernel
set_option maxRecDepth 20000 in
theorem moX0_addSetsOf_104 {o : Hp} {k_2 : Hp → Nat → Int32 → Int32 → Option (Hp)} {F : Nat} (mk_2 : ∀ (h : Hp) (x0 : Nat) (x1 : Int32) (x2 : Int32), k_2 h x0 x1 x2 = some o → Le h o) {h : Hp} {x0 : Nat} {x1 : Int32} {x2 : Int32} (hE : sX0_addSetsOf_104 F k_2 h x0 x1 x2 = some o) : Le h o := by
  obtain ⟨v_1, ev_1, hE⟩ := nm_e2 hE
  exact mk_2 _ _ _ _ hE
set_option maxRecDepth 20000 in
theorem moX0_addSetsOf_52 {o : Hp} {k_2 : Hp → Nat → Int32 → Int32 → Option (Hp)} {F : Nat} (mk_2 : ∀ (h : Hp) (x0 : Nat) (x1 : Int32) (x2 : Int32), k_2 h x0 x1 x2 = some o → Le h o) : ∀ (f : Nat) {h : Hp} {x0 : Nat} {x1 : Int32} {x2 : Int32} {x3 : Int32} {x4 : Int32} {x5 : Int32} {x6 : Int32}, sX0_addSetsOf_52 F k_2 f h x0 x1 x2 x3 x4 x5 x6 = some o → Le h o := by
  intro f
  induction f with
  | zero =>
    intro h x0 x1 x2 x3 x4 x5 x6 hE
    rw [sX0_addSetsOf_52] at hE
    cases hE
  | succ f ih =>
    intro h x0 x1 x2 x3 x4 x5 x6 hE
    rw [sX0_addSetsOf_52] at hE
    have mk_52 : ∀ (h : Hp) (x0 : Nat) (x1 : Int32) (x2 : Int32) (x3 : Int32) (x4 : Int32) (x5 : Int32) (x6 : Int32), sX0_addSetsOf_52 F k_2 f h x0 x1 x2 x3 x4 x5 x6 = some o → Le h o := fun h x0 x1 x2 x3 x4 x5 x6 hE => ih hE
    obtain ⟨r_1, er_1, hE⟩ := cl_e hE
    obtain ⟨r_2, er_2, hE⟩ := cl_e hE
    obtain ⟨g_3, hE⟩ := gd_e hE
    rcases br_e hE with ⟨_, hE⟩ | ⟨_, hE⟩
    · exact moX0_addSetsOf_104 mk_2 hE
    · obtain ⟨r_5, er_5, hE⟩ := cl_e hE
      obtain ⟨r_6, er_6, hE⟩ := cl_e hE
      obtain ⟨g_7, hE⟩ := gd_e hE
      obtain ⟨o_8, eo_8, hE⟩ := cl_e hE
      refine (moX0_with eo_8).tr ?_
      obtain ⟨o_9, eo_9, hE⟩ := cl_e hE
      refine (moX0_addSet eo_9).tr ?_
      obtain ⟨v_10, ev_10, hE⟩ := nm_e2 hE
      exact mk_52 _ _ _ _ _ _ _ _ hE
set_option maxRecDepth 20000 in
theorem moX0_addSetsOf_2 {o : Hp} {F : Nat} : ∀ (f : Nat) {h : Hp} {x0 : Nat} {x1 : Int32} {x2 : Int32}, sX0_addSetsOf_2 F f h x0 x1 x2 = some o → Le h o := by
  intro f
  induction f with
  | zero =>
    intro h x0 x1 x2 hE
    rw [sX0_addSetsOf_2] at hE
    cases hE
  | succ f ih =>
    intro h x0 x1 x2 hE
    rw [sX0_addSetsOf_2] at hE
    have mk_2 : ∀ (h : Hp) (x0 : Nat) (x1 : Int32) (x2 : Int32), sX0_addSetsOf_2 F f h x0 x1 x2 = some o → Le h o := fun h x0 x1 x2 hE => ih hE
    obtain ⟨o_1, eo_1, hE⟩ := cl_e hE
    refine (moX0_sizeOf eo_1).tr ?_
    rcases br_e hE with ⟨_, hE⟩ | ⟨_, hE⟩
    · exact le_some1 hE
    · obtain ⟨o_3, eo_3, hE⟩ := cl_e hE
      refine (moX0_codeIn eo_3).tr ?_
      obtain ⟨v_4, ev_4, hE⟩ := nm_e2 hE
      obtain ⟨r_5, er_5, hE⟩ := cl_e hE
      rcases br_e hE with ⟨_, hE⟩ | ⟨_, hE⟩
      · exact moX0_addSetsOf_104 mk_2 hE
      · obtain ⟨o_7, eo_7, hE⟩ := cl_e hE
        refine (moX0_without eo_7).tr ?_
        obtain ⟨o_8, eo_8, hE⟩ := cl_e hE
        refine (moX0_addSet eo_8).tr ?_
        exact moX0_addSetsOf_52 mk_2 _ hE
set_option maxRecDepth 20000 in
theorem moX0_addSetsOf {o : Hp} {F : Nat} {h : Hp} {x0 : Nat} {x1 : Int32} (hE : sX0_addSetsOf F h x0 x1 = some o) : Le h o := by
  exact moX0_addSetsOf_2 _ hE
set_option maxRecDepth 20000 in
theorem bX0_addSetsOf_104 {p : Program} {l : Launch} {e : Env} {s : State} {m : MethodId} {args : Array Value} {below : List Frame} {meth : Method} {c : Code} {X : Ec} {h0 : Hp} {o : Hp} {k_2 : Hp → Nat → Int32 → Int32 → Option (Hp)} {F : Nat} (C : Cx X p s m args meth c RX0 cX0_addSetsOf 7 none "addSetsOf") (hk_2 : ∀ (h : Hp) (x0 : Nat) (x1 : Int32) (x2 : Int32) (H : Heap) (locs : List Loc), hK h x0 = 0 → Km h0 h → Wx X h H → va_S (aA (eB X)) s.heap H locs → ∀ (ls : Array Slot), lv_has ls 7 [(0, .ref x0), (1, .int x1), (2, .int x2)] → k_2 h x0 x1 x2 = some o → W p l e (rm 3 64) s m args below meth c H locs 0 0 (MQ below (QV X h0 o) args s 0 0 (aA (eB X))) (F0 m 2 ls [])) {h : Hp} {x0 : Nat} {x1 : Int32} {x2 : Int32} {H : Heap} {locs : List Loc} (k_x0 : hK h x0 = 0) (hkm : Km h0 h) (hW : Wx X h H) (hZ : va_S (aA (eB X)) s.heap H locs) (ls : Array Slot) (hl : lv_has ls 7 [(0, .ref x0), (1, .int x1), (2, .int x2)]) (hE : sX0_addSetsOf_104 F k_2 h x0 x1 x2 = some o) : W p l e (rm 3 64) s m args below meth c H locs 0 0 (MQ below (QV X h0 o) args s 0 0 (aA (eB X))) (F0 m 104 ls []) := by
  obtain ⟨v_1, ev_1, hE⟩ := nm_e2 hE
  refine lv_iinc (v := v_1) (lv' := [(2, .int v_1), (0, .ref x0), (1, .int x1)]) C.1 C.2.1 dX0_addSetsOf_104 hl (k := 2) rfl (by rw [ev_1]; rfl) (by decide) rfl (fun ls hl => ?_)
  refine lv_goto (tgt := 2) C.1 C.2.1 dX0_addSetsOf_107 (by decide) ?_
  exact hk_2 _ _ _ _ _ _ k_x0 hkm hW hZ _ (lv_sub hl [1, 2, 0] rfl) hE
set_option maxRecDepth 20000 in
theorem bX0_addSetsOf_52 {p : Program} {l : Launch} {e : Env} {s : State} {m : MethodId} {args : Array Value} {below : List Frame} {meth : Method} {c : Code} {X : Ec} {h0 : Hp} {o : Hp} {k_2 : Hp → Nat → Int32 → Int32 → Option (Hp)} {F : Nat} (C : Cx X p s m args meth c RX0 cX0_addSetsOf 7 none "addSetsOf") (hk_2 : ∀ (h : Hp) (x0 : Nat) (x1 : Int32) (x2 : Int32) (H : Heap) (locs : List Loc), hK h x0 = 0 → Km h0 h → Wx X h H → va_S (aA (eB X)) s.heap H locs → ∀ (ls : Array Slot), lv_has ls 7 [(0, .ref x0), (1, .int x1), (2, .int x2)] → k_2 h x0 x1 x2 = some o → W p l e (rm 3 64) s m args below meth c H locs 0 0 (MQ below (QV X h0 o) args s 0 0 (aA (eB X))) (F0 m 2 ls [])) : ∀ (f : Nat) {h : Hp} {x0 : Nat} {x1 : Int32} {x2 : Int32} {x3 : Int32} {x4 : Int32} {x5 : Int32} {x6 : Int32} {H : Heap} {locs : List Loc} (k_x0 : hK h x0 = 0), Km h0 h → Wx X h H → va_S (aA (eB X)) s.heap H locs → ∀ (ls : Array Slot), lv_has ls 7 [(0, .ref x0), (1, .int x1), (2, .int x2), (3, .int x3), (4, .int x4), (5, .int x5), (6, .int x6)] → sX0_addSetsOf_52 F k_2 f h x0 x1 x2 x3 x4 x5 x6 = some o → W p l e (rm 3 64) s m args below meth c H locs 0 0 (MQ below (QV X h0 o) args s 0 0 (aA (eB X))) (F0 m 52 ls []) := by
  intro f
  induction f with
  | zero =>
    intro h x0 x1 x2 x3 x4 x5 x6 H locs k_x0 hkm hW hZ ls hl hE
    rw [sX0_addSetsOf_52] at hE
    cases hE
  | succ f ih =>
    intro h x0 x1 x2 x3 x4 x5 x6 H locs k_x0 hkm hW hZ ls hl hE
    rw [sX0_addSetsOf_52] at hE
    have hk_52 : ∀ (h : Hp) (x0 : Nat) (x1 : Int32) (x2 : Int32) (x3 : Int32) (x4 : Int32) (x5 : Int32) (x6 : Int32) (H : Heap) (locs : List Loc), hK h x0 = 0 → Km h0 h → Wx X h H → va_S (aA (eB X)) s.heap H locs → ∀ (ls : Array Slot), lv_has ls 7 [(0, .ref x0), (1, .int x1), (2, .int x2), (3, .int x3), (4, .int x4), (5, .int x5), (6, .int x6)] → sX0_addSetsOf_52 F k_2 f h x0 x1 x2 x3 x4 x5 x6 = some o → W p l e (rm 3 64) s m args below meth c H locs 0 0 (MQ below (QV X h0 o) args s 0 0 (aA (eB X))) (F0 m 52 ls []) := fun h x0 x1 x2 x3 x4 x5 x6 H locs k_x0 a b c ls hl hE => ih k_x0 a b c ls hl hE
    refine lv_iload C.1 C.2.1 dX0_addSetsOf_52 (lv_at hl 6 rfl) ?_
    refine lv_aload_n C.1 C.2.1 dX0_addSetsOf_54 rfl (lv_at hl 0 rfl) ?_
    obtain ⟨r_1, er_1, hE⟩ := cl_e hE
    refine gf_X0_40 C hW k_x0 er_1 dX0_addSetsOf_55 (fun k_r_1 => ?_)
    obtain ⟨r_2, er_2, hE⟩ := cl_e hE
    refine gf_X0_149 C hW k_r_1 er_2 dX0_addSetsOf_58 (fun k_r_2 => ?_)
    refine lv_iload C.1 C.2.1 dX0_addSetsOf_61 (lv_at hl 4 rfl) ?_
    obtain ⟨g_3, hE⟩ := gd_e hE
    refine y_iald C hW k_r_2 g_3 dX0_addSetsOf_63 ?_
    refine lv_icmp_ge (tgt := 104) C.1 C.2.1 dX0_addSetsOf_64 (by decide) (fun c_4 => ?_) (fun c_4 => ?_)
    · have hE := br_p hE c_4
      exact bX0_addSetsOf_104 C hk_2 k_x0 hkm hW hZ _ (lv_sub hl [0, 1, 2] rfl) hE
    · have hE := br_n hE c_4
      refine lv_aload_n C.1 C.2.1 dX0_addSetsOf_67 rfl (lv_at hl 0 rfl) ?_
      refine lv_iload C.1 C.2.1 dX0_addSetsOf_68 (lv_at hl 5 rfl) ?_
      refine lv_iconst (v := (2 : Int32)) C.1 C.2.1 dX0_addSetsOf_70 (by decide) ?_
      refine lv_aload_n C.1 C.2.1 dX0_addSetsOf_71 rfl (lv_at hl 0 rfl) ?_
      obtain ⟨r_5, er_5, hE⟩ := cl_e hE
      refine gf_X0_40 C hW k_x0 er_5 dX0_addSetsOf_72 (fun k_r_5 => ?_)
      obtain ⟨r_6, er_6, hE⟩ := cl_e hE
      refine gf_X0_152 C hW k_r_5 er_6 dX0_addSetsOf_75 (fun k_r_6 => ?_)
      refine lv_iload C.1 C.2.1 dX0_addSetsOf_78 (lv_at hl 4 rfl) ?_
      refine lv_bipush (v := (6 : Int32)) C.1 C.2.1 dX0_addSetsOf_80 (by decide) ?_
      refine lv_imul C.1 C.2.1 dX0_addSetsOf_82 ?_
      refine lv_iload C.1 C.2.1 dX0_addSetsOf_83 (lv_at hl 6 rfl) ?_
      refine lv_iadd C.1 C.2.1 dX0_addSetsOf_85 ?_
      obtain ⟨g_7, hE⟩ := gd_e hE
      refine y_iald C hW k_r_6 g_7 dX0_addSetsOf_86 ?_
      refine lv_imul C.1 C.2.1 dX0_addSetsOf_87 ?_
      refine lv_iload_n C.1 C.2.1 dX0_addSetsOf_88 rfl (lv_at hl 3 rfl) ?_
      refine lv_iconst (v := (1 : Int32)) C.1 C.2.1 dX0_addSetsOf_89 (by decide) ?_
      refine lv_iand C.1 C.2.1 dX0_addSetsOf_90 ?_
      refine lv_iadd C.1 C.2.1 dX0_addSetsOf_91 ?_
      obtain ⟨o_8, eo_8, hE⟩ := cl_e hE
      refine x_kI (o := o_8) (z_runS (As := [.int x5, .int (((2 : Int32) * (hI h r_6 ((x4 * (6 : Int32)) + x6).toNatClampNeg)) + (x3 &&& (1 : Int32)))]) (rest := [.ref x0]) C (ct_X0_with l X F eo_8) cw_X0_70 hW hZ rfl hl.1 (Nat.le_of_ble_eq_true rfl) rfl dX0_addSetsOf_92 ⟨Nat.le_of_ble_eq_true rfl, Nat.le_of_ble_eq_true rfl⟩ ⟨Nat.le_refl _, Nat.le_refl _⟩) hZ (fun _ _ hW km hZ => ?_)
      replace hkm := hkm.tr km
      replace k_x0 := km.at k_x0 (by decide)
      obtain ⟨o_9, eo_9, hE⟩ := cl_e hE
      refine x_kV (o := o_9) (z_runV (As := [.int o_8.1]) (rest := []) C (ct_X0_addSet l X F k_x0 eo_9) cw_X0_132 hW hZ k_x0 (by decide) rfl rfl rfl hl.1 (Nat.le_of_ble_eq_true rfl) rfl dX0_addSetsOf_95 ⟨Nat.le_of_ble_eq_true rfl, Nat.le_of_ble_eq_true rfl⟩ ⟨Nat.le_refl _, Nat.le_refl _⟩) hZ (fun _ _ hW km hZ => ?_)
      replace hkm := hkm.tr km
      replace k_x0 := km.at k_x0 (by decide)
      obtain ⟨v_10, ev_10, hE⟩ := nm_e2 hE
      refine lv_iinc (v := v_10) (lv' := [(6, .int v_10), (0, .ref x0), (1, .int x1), (2, .int x2), (3, .int x3), (4, .int x4), (5, .int x5)]) C.1 C.2.1 dX0_addSetsOf_98 hl (k := 6) rfl (by rw [ev_10]; rfl) (by decide) rfl (fun ls hl => ?_)
      refine lv_goto (tgt := 52) C.1 C.2.1 dX0_addSetsOf_101 (by decide) ?_
      exact hk_52 _ _ _ _ _ _ _ _ _ _ k_x0 hkm hW hZ _ (lv_sub hl [1, 2, 3, 4, 5, 6, 0] rfl) hE
set_option maxRecDepth 20000 in
theorem bX0_addSetsOf_2 {p : Program} {l : Launch} {e : Env} {s : State} {m : MethodId} {args : Array Value} {below : List Frame} {meth : Method} {c : Code} {X : Ec} {h0 : Hp} {o : Hp} {F : Nat} (C : Cx X p s m args meth c RX0 cX0_addSetsOf 7 none "addSetsOf") : ∀ (f : Nat) {h : Hp} {x0 : Nat} {x1 : Int32} {x2 : Int32} {H : Heap} {locs : List Loc} (k_x0 : hK h x0 = 0), Km h0 h → Wx X h H → va_S (aA (eB X)) s.heap H locs → ∀ (ls : Array Slot), lv_has ls 7 [(0, .ref x0), (1, .int x1), (2, .int x2)] → sX0_addSetsOf_2 F f h x0 x1 x2 = some o → W p l e (rm 3 64) s m args below meth c H locs 0 0 (MQ below (QV X h0 o) args s 0 0 (aA (eB X))) (F0 m 2 ls []) := by
  intro f
  induction f with
  | zero =>
    intro h x0 x1 x2 H locs k_x0 hkm hW hZ ls hl hE
    rw [sX0_addSetsOf_2] at hE
    cases hE
  | succ f ih =>
    intro h x0 x1 x2 H locs k_x0 hkm hW hZ ls hl hE
    rw [sX0_addSetsOf_2] at hE
    have hk_2 : ∀ (h : Hp) (x0 : Nat) (x1 : Int32) (x2 : Int32) (H : Heap) (locs : List Loc), hK h x0 = 0 → Km h0 h → Wx X h H → va_S (aA (eB X)) s.heap H locs → ∀ (ls : Array Slot), lv_has ls 7 [(0, .ref x0), (1, .int x1), (2, .int x2)] → sX0_addSetsOf_2 F f h x0 x1 x2 = some o → W p l e (rm 3 64) s m args below meth c H locs 0 0 (MQ below (QV X h0 o) args s 0 0 (aA (eB X))) (F0 m 2 ls []) := fun h x0 x1 x2 H locs k_x0 a b c ls hl hE => ih k_x0 a b c ls hl hE
    refine lv_iload_n C.1 C.2.1 dX0_addSetsOf_2 rfl (lv_at hl 2 rfl) ?_
    refine lv_iload_n C.1 C.2.1 dX0_addSetsOf_3 rfl (lv_at hl 1 rfl) ?_
    obtain ⟨o_1, eo_1, hE⟩ := cl_e hE
    refine x_kI (o := o_1) (z_runS (As := [.int x1]) (rest := [.int x2]) C (ct_X0_sizeOf l X F eo_1) cw_X0_143 hW hZ rfl hl.1 (Nat.le_of_ble_eq_true rfl) rfl dX0_addSetsOf_4 ⟨Nat.le_of_ble_eq_true rfl, Nat.le_of_ble_eq_true rfl⟩ ⟨Nat.le_refl _, Nat.le_refl _⟩) hZ (fun _ _ hW km hZ => ?_)
    replace hkm := hkm.tr km
    replace k_x0 := km.at k_x0 (by decide)
    refine lv_icmp_ge (tgt := 110) C.1 C.2.1 dX0_addSetsOf_7 (by decide) (fun c_2 => ?_) (fun c_2 => ?_)
    · have hE := br_p hE c_2
      exact x_vret C rfl hW hZ hkm hE dX0_addSetsOf_110
    · have hE := br_n hE c_2
      refine lv_iload_n C.1 C.2.1 dX0_addSetsOf_10 rfl (lv_at hl 1 rfl) ?_
      refine lv_iload_n C.1 C.2.1 dX0_addSetsOf_11 rfl (lv_at hl 2 rfl) ?_
      obtain ⟨o_3, eo_3, hE⟩ := cl_e hE
      refine x_kI (o := o_3) (z_runS (As := [.int x1, .int x2]) (rest := []) C (ct_X0_codeIn l X eo_3) cw_X0_123 hW hZ rfl hl.1 (Nat.le_of_ble_eq_true rfl) rfl dX0_addSetsOf_12 ⟨Nat.le_of_ble_eq_true rfl, Nat.le_of_ble_eq_true rfl⟩ ⟨Nat.le_refl _, Nat.le_refl _⟩) hZ (fun _ _ hW km hZ => ?_)
      replace hkm := hkm.tr km
      replace k_x0 := km.at k_x0 (by decide)
      refine lv_istore_n (lv' := [(3, .int o_3.1), (0, .ref x0), (1, .int x1), (2, .int x2)]) C.1 C.2.1 dX0_addSetsOf_15 rfl hl (by decide) rfl (fun ls hl => ?_)
      refine lv_iload_n C.1 C.2.1 dX0_addSetsOf_16 rfl (lv_at hl 0 rfl) ?_
      refine lv_iconst (v := (1 : Int32)) C.1 C.2.1 dX0_addSetsOf_17 (by decide) ?_
      refine lv_ishr C.1 C.2.1 dX0_addSetsOf_18 ?_
      obtain ⟨v_4, ev_4, hE⟩ := nm_e2 hE
      refine x_nmI ev_4 ?_
      refine lv_istore (lv' := [(4, .int v_4), (3, .int o_3.1), (0, .ref x0), (1, .int x1), (2, .int x2)]) C.1 C.2.1 dX0_addSetsOf_19 hl (by decide) rfl (fun ls hl => ?_)
      refine lv_iload C.1 C.2.1 dX0_addSetsOf_21 (lv_at hl 0 rfl) ?_
      refine lv_aload_n C.1 C.2.1 dX0_addSetsOf_23 rfl (lv_at hl 2 rfl) ?_
      obtain ⟨r_5, er_5, hE⟩ := cl_e hE
      refine gf_X0_40 C hW k_x0 er_5 dX0_addSetsOf_24 (fun k_r_5 => ?_)
      refine gf_X0_67 C hW k_r_5 dX0_addSetsOf_27 ?_
      refine lv_icmp_ne (tgt := 36) C.1 C.2.1 dX0_addSetsOf_30 (by decide) (fun c_6 => ?_) (fun c_6 => ?_)
      · have hE := br_n hE c_6
        refine lv_iload_n C.1 C.2.1 dX0_addSetsOf_36 rfl (lv_at hl 3 rfl) ?_
        refine lv_iload_n C.1 C.2.1 dX0_addSetsOf_37 rfl (lv_at hl 4 rfl) ?_
        obtain ⟨o_7, eo_7, hE⟩ := cl_e hE
        refine x_kI (o := o_7) (z_runS (As := [.int x1, .int x2]) (rest := []) C (ct_X0_without l X eo_7) cw_X0_146 hW hZ rfl hl.1 (Nat.le_of_ble_eq_true rfl) rfl dX0_addSetsOf_38 ⟨Nat.le_of_ble_eq_true rfl, Nat.le_of_ble_eq_true rfl⟩ ⟨Nat.le_refl _, Nat.le_refl _⟩) hZ (fun _ _ hW km hZ => ?_)
        replace hkm := hkm.tr km
        replace k_x0 := km.at k_x0 (by decide)
        refine lv_istore (lv' := [(5, .int o_7.1), (4, .int v_4), (3, .int o_3.1), (0, .ref x0), (1, .int x1), (2, .int x2)]) C.1 C.2.1 dX0_addSetsOf_41 hl (by decide) rfl (fun ls hl => ?_)
        refine lv_aload_n C.1 C.2.1 dX0_addSetsOf_43 rfl (lv_at hl 3 rfl) ?_
        refine lv_iload C.1 C.2.1 dX0_addSetsOf_44 (lv_at hl 0 rfl) ?_
        obtain ⟨o_8, eo_8, hE⟩ := cl_e hE
        refine x_kV (o := o_8) (z_runV (As := [.int o_7.1]) (rest := []) C (ct_X0_addSet l X F k_x0 eo_8) cw_X0_132 hW hZ k_x0 (by decide) rfl rfl rfl hl.1 (Nat.le_of_ble_eq_true rfl) rfl dX0_addSetsOf_46 ⟨Nat.le_of_ble_eq_true rfl, Nat.le_of_ble_eq_true rfl⟩ ⟨Nat.le_refl _, Nat.le_refl _⟩) hZ (fun _ _ hW km hZ => ?_)
        replace hkm := hkm.tr km
        replace k_x0 := km.at k_x0 (by decide)
        refine lv_iconst (v := (0 : Int32)) C.1 C.2.1 dX0_addSetsOf_49 (by decide) ?_
        refine lv_istore (lv' := [(6, .int (0 : Int32)), (5, .int o_7.1), (4, .int v_4), (3, .int o_3.1), (0, .ref x0), (1, .int x1), (2, .int x2)]) C.1 C.2.1 dX0_addSetsOf_50 hl (by decide) rfl (fun ls hl => ?_)
        exact bX0_addSetsOf_52 C hk_2 F k_x0 hkm hW hZ _ (lv_sub hl [4, 5, 6, 3, 2, 1, 0] rfl) hE
      · have hE := br_p hE c_6
        refine lv_goto (tgt := 104) C.1 C.2.1 dX0_addSetsOf_33 (by decide) ?_
        exact bX0_addSetsOf_104 C hk_2 k_x0 hkm hW hZ _ (lv_sub hl [2, 3, 4] rfl) hE
set_option maxRecDepth 20000 in
theorem ct_X0_addSetsOf (l : Launch) (X : Ec) (F : Nat) {h : Hp} {x0 : Nat} {x1 : Int32} {o : Hp} (k_x0 : hK h x0 = 0) (hE : sX0_addSetsOf F h x0 x1 = some o) : MetV l yX0_addSetsOf cX0_addSetsOf 7 none 3 64 X [.ref x0, .int x1] h o := by
  refine x_met (by decide) (Nat.le_of_ble_eq_true rfl) ?_
  intro p e s m below meth c ls C hl hW hZ
  have hl : lv_has ls 7 [(0, .ref x0), (1, .int x1)] := hl
  have hkm : Km h h := Km.rf h
  refine lv_iconst (v := (0 : Int32)) C.1 C.2.1 dX0_addSetsOf_0 (by decide) ?_
  refine lv_istore_n (lv' := [(2, .int (0 : Int32)), (0, .ref x0), (1, .int x1)]) C.1 C.2.1 dX0_addSetsOf_1 rfl hl (by decide) rfl (fun ls hl => ?_)
  exact bX0_addSetsOf_2 C F k_x0 hkm hW hZ _ (lv_sub hl [1, 2, 0] rfl) hE
