set_option maxRecDepth 100000 in
theorem m_523 : Cond.methodLink RX4 3 objectInit ∈ W0 := w0_in (List.mem_append_right _ (List.mem_of_getElem? (i := 523) rfl)) rfl
set_option maxRecDepth 100000 in
theorem m_524 : Cond.classLink RX4 11 RX3 ∈ W0 := w0_in (List.mem_append_right _ (List.mem_of_getElem? (i := 524) rfl)) rfl
set_option maxRecDepth 100000 in
theorem m_526 : Cond.classLink RX4 17 ("[" ++ (FieldType.array .int).toString) ∈ W0 := w0_in (List.mem_append_right _ (List.mem_of_getElem? (i := 526) rfl)) rfl
set_option maxRecDepth 100000 in
theorem m_528 : Cond.methodLink RX4 49 yX3_init ∈ W0 := w0_in (List.mem_append_right _ (List.mem_of_getElem? (i := 528) rfl)) rfl
set_option maxRecDepth 100000 in
theorem m_529 : Cond.fieldLink RX4 45 (TX4 0).1 (TX4 0).2.1 (TX4 0).2.2.1 ∈ W0 := w0_in (List.mem_append_right _ (List.mem_of_getElem? (i := 529) rfl)) rfl
set_option maxRecDepth 100000 in
theorem m_530 : Cond.fieldLink RX4 13 (TX4 1).1 (TX4 1).2.1 (TX4 1).2.2.1 ∈ W0 := w0_in (List.mem_append_right _ (List.mem_of_getElem? (i := 530) rfl)) rfl
set_option maxRecDepth 100000 in
theorem m_531 : Cond.fieldLink RX4 19 (TX4 2).1 (TX4 2).2.1 (TX4 2).2.2.1 ∈ W0 := w0_in (List.mem_append_right _ (List.mem_of_getElem? (i := 531) rfl)) rfl
set_option maxRecDepth 100000 in
theorem m_532 : Cond.fieldLink RX4 22 (TX4 3).1 (TX4 3).2.1 (TX4 3).2.2.1 ∈ W0 := w0_in (List.mem_append_right _ (List.mem_of_getElem? (i := 532) rfl)) rfl
set_option maxRecDepth 100000 in
theorem m_533 : Cond.fieldLink RX4 26 (TX4 4).1 (TX4 4).2.1 (TX4 4).2.2.1 ∈ W0 := w0_in (List.mem_append_right _ (List.mem_of_getElem? (i := 533) rfl)) rfl
set_option maxRecDepth 100000 in
theorem m_540 : Cond.fieldLink RX4 29 (TX4 10).1 (TX4 10).2.1 (TX4 10).2.2.1 ∈ W0 := w0_in (List.mem_append_right _ (List.mem_of_getElem? (i := 540) rfl)) rfl
set_option maxRecDepth 100000 in
theorem m_541 : Cond.fieldLink RX4 32 (TX4 11).1 (TX4 11).2.1 (TX4 11).2.2.1 ∈ W0 := w0_in (List.mem_append_right _ (List.mem_of_getElem? (i := 541) rfl)) rfl
set_option maxRecDepth 100000 in
theorem m_542 : Cond.fieldLink RX4 35 (TX4 12).1 (TX4 12).2.1 (TX4 12).2.2.1 ∈ W0 := w0_in (List.mem_append_right _ (List.mem_of_getElem? (i := 542) rfl)) rfl
set_option maxRecDepth 100000 in
theorem m_543 : Cond.fieldLink RX4 38 (TX4 13).1 (TX4 13).2.1 (TX4 13).2.2.1 ∈ W0 := w0_in (List.mem_append_right _ (List.mem_of_getElem? (i := 543) rfl)) rfl
set_option maxRecDepth 100000 in
theorem m_546 : Cond.fieldLink RX4 41 (TX4 16).1 (TX4 16).2.1 (TX4 16).2.2.1 ∈ W0 := w0_in (List.mem_append_right _ (List.mem_of_getElem? (i := 546) rfl)) rfl
theorem i_X4 : ∀ w ∈ u_ws RX4 TX4 17, w ∈ W0 := by
  intro w hw
  exact w0_in (List.mem_append_right _ ((by decide +kernel : ∀ w ∈ u_ws RX4 TX4 17, w ∈ tables_1) w hw)) ((by decide +kernel : ∀ w ∈ u_ws RX4 TX4 17, goodWord w = true) w hw)
section
variable {p : Program} {l : Launch} {e : Env} {R : Room} {s : State} {m : MethodId} {args : Array Value} {below : List Frame} {meth : Method} {c : Code} {H : Heap} {locs : List Loc} {cells slots : Nat} {Q : State → Prop}
variable {cc : ByteArray} {pc : Nat} {ls : Array Slot} {rest : List Value} {X : Ec} {h h1 : Hp} {nL : Nat} {rt : Option FieldType} {mn : String}
theorem gf_X4_13 {a r : Nat} (C : Cx X p s m args meth c RX4 cc nL rt mn) (hW : Wx X h H) (ha : hK h a = 4) (hr : hR h a 1 = some r) (hdg : decode cc pc = .ok (.getfield 13, 3)) (kk : hK h r = 20 → W p l e R s m args below meth c H locs cells slots Q (F0 m (pc + 3) ls (.ref r :: rest))) : W p l e R s m args below meth c H locs cells slots Q (F0 m pc ls (.ref a :: rest)) :=
  y_getr C hW ha i_X4 (by decide) rfl (by decide) m_530 rfl rfl hr hdg kk
theorem pf_X4_38 {a r : Nat} (C : Cx X p s m args meth c RX4 cc nL rt mn) (hW : Wx X h H) (hZ : va_S (aA (eB X)) s.heap H locs) (hmn : mn = "<init>") (ha : hK h a = 4) (hr : hK h r = 17) (eh : h1 = wR h a 13 (some r)) (hdg : decode cc pc = .ok (.putfield 38, 3)) (kk : ∀ (H1 : Heap) (locs1 : List Loc), Wx X h1 H1 → Km h h1 → va_S (aA (eB X)) s.heap H1 locs1 → W p l e R s m args below meth c H1 locs1 cells slots Q (F0 m (pc + 3) ls rest)) : W p l e R s m args below meth c H locs cells slots Q (F0 m pc ls (.ref r :: .ref a :: rest)) :=
  y_putrF (ty := .array .int) C hW hZ ha i_X4 tyX4 tyX4_ok nmX4 (by decide) rfl rfl (by decide) m_543 rfl hmn rfl (by decide +kernel) rfl rfl rfl hr rfl (by decide) eh hdg kk
theorem pf_X4_41 {a : Nat} {v : Int32} (C : Cx X p s m args meth c RX4 cc nL rt mn) (hW : Wx X h H) (hZ : va_S (aA (eB X)) s.heap H locs) (ha : hK h a = 4) (eh : h1 = wI h a 16 v) (hdg : decode cc pc = .ok (.putfield 41, 3)) (kk : ∀ (H1 : Heap) (locs1 : List Loc), Wx X h1 H1 → Km h h1 → va_S (aA (eB X)) s.heap H1 locs1 → W p l e R s m args below meth c H1 locs1 cells slots Q (F0 m (pc + 3) ls rest)) : W p l e R s m args below meth c H locs cells slots Q (F0 m pc ls (.int v :: .ref a :: rest)) :=
  y_puti (ty := .int) C hW hZ ha i_X4 tyX4 tyX4_ok nmX4 (by decide) rfl rfl (by decide) m_546 rfl (by decide +kernel) rfl rfl rfl eh hdg kk
theorem pf_X4_45 {a r : Nat} (C : Cx X p s m args meth c RX4 cc nL rt mn) (hW : Wx X h H) (hZ : va_S (aA (eB X)) s.heap H locs) (hmn : mn = "<init>") (ha : hK h a = 4) (hr : hK h r = 5) (eh : h1 = wR h a 0 (some r)) (hdg : decode cc pc = .ok (.putfield 45, 3)) (kk : ∀ (H1 : Heap) (locs1 : List Loc), Wx X h1 H1 → Km h h1 → va_S (aA (eB X)) s.heap H1 locs1 → W p l e R s m args below meth c H1 locs1 cells slots Q (F0 m (pc + 3) ls rest)) : W p l e R s m args below meth c H locs cells slots Q (F0 m pc ls (.ref r :: .ref a :: rest)) :=
  y_putrF (ty := .object "GameRules$Referee") C hW hZ ha i_X4 tyX4 tyX4_ok nmX4 (by decide) rfl rfl (by decide) m_529 rfl hmn rfl (by decide +kernel) rfl rfl rfl hr rfl (by decide) eh hdg kk
theorem pf_X4_35 {a r : Nat} (C : Cx X p s m args meth c RX4 cc nL rt mn) (hW : Wx X h H) (hZ : va_S (aA (eB X)) s.heap H locs) (hmn : mn = "<init>") (ha : hK h a = 4) (hr : hK h r = 17) (eh : h1 = wR h a 12 (some r)) (hdg : decode cc pc = .ok (.putfield 35, 3)) (kk : ∀ (H1 : Heap) (locs1 : List Loc), Wx X h1 H1 → Km h h1 → va_S (aA (eB X)) s.heap H1 locs1 → W p l e R s m args below meth c H1 locs1 cells slots Q (F0 m (pc + 3) ls rest)) : W p l e R s m args below meth c H locs cells slots Q (F0 m pc ls (.ref r :: .ref a :: rest)) :=
  y_putrF (ty := .array .int) C hW hZ ha i_X4 tyX4 tyX4_ok nmX4 (by decide) rfl rfl (by decide) m_542 rfl hmn rfl (by decide +kernel) rfl rfl rfl hr rfl (by decide) eh hdg kk
theorem pf_X4_32 {a r : Nat} (C : Cx X p s m args meth c RX4 cc nL rt mn) (hW : Wx X h H) (hZ : va_S (aA (eB X)) s.heap H locs) (hmn : mn = "<init>") (ha : hK h a = 4) (hr : hK h r = 17) (eh : h1 = wR h a 11 (some r)) (hdg : decode cc pc = .ok (.putfield 32, 3)) (kk : ∀ (H1 : Heap) (locs1 : List Loc), Wx X h1 H1 → Km h h1 → va_S (aA (eB X)) s.heap H1 locs1 → W p l e R s m args below meth c H1 locs1 cells slots Q (F0 m (pc + 3) ls rest)) : W p l e R s m args below meth c H locs cells slots Q (F0 m pc ls (.ref r :: .ref a :: rest)) :=
  y_putrF (ty := .array .int) C hW hZ ha i_X4 tyX4 tyX4_ok nmX4 (by decide) rfl rfl (by decide) m_541 rfl hmn rfl (by decide +kernel) rfl rfl rfl hr rfl (by decide) eh hdg kk
theorem pf_X4_29 {a r : Nat} (C : Cx X p s m args meth c RX4 cc nL rt mn) (hW : Wx X h H) (hZ : va_S (aA (eB X)) s.heap H locs) (hmn : mn = "<init>") (ha : hK h a = 4) (hr : hK h r = 17) (eh : h1 = wR h a 10 (some r)) (hdg : decode cc pc = .ok (.putfield 29, 3)) (kk : ∀ (H1 : Heap) (locs1 : List Loc), Wx X h1 H1 → Km h h1 → va_S (aA (eB X)) s.heap H1 locs1 → W p l e R s m args below meth c H1 locs1 cells slots Q (F0 m (pc + 3) ls rest)) : W p l e R s m args below meth c H locs cells slots Q (F0 m pc ls (.ref r :: .ref a :: rest)) :=
  y_putrF (ty := .array .int) C hW hZ ha i_X4 tyX4 tyX4_ok nmX4 (by decide) rfl rfl (by decide) m_540 rfl hmn rfl (by decide +kernel) rfl rfl rfl hr rfl (by decide) eh hdg kk
theorem pf_X4_26 {a r : Nat} (C : Cx X p s m args meth c RX4 cc nL rt mn) (hW : Wx X h H) (hZ : va_S (aA (eB X)) s.heap H locs) (hmn : mn = "<init>") (ha : hK h a = 4) (hr : hK h r = 17) (eh : h1 = wR h a 4 (some r)) (hdg : decode cc pc = .ok (.putfield 26, 3)) (kk : ∀ (H1 : Heap) (locs1 : List Loc), Wx X h1 H1 → Km h h1 → va_S (aA (eB X)) s.heap H1 locs1 → W p l e R s m args below meth c H1 locs1 cells slots Q (F0 m (pc + 3) ls rest)) : W p l e R s m args below meth c H locs cells slots Q (F0 m pc ls (.ref r :: .ref a :: rest)) :=
  y_putrF (ty := .array .int) C hW hZ ha i_X4 tyX4 tyX4_ok nmX4 (by decide) rfl rfl (by decide) m_533 rfl hmn rfl (by decide +kernel) rfl rfl rfl hr rfl (by decide) eh hdg kk
theorem pf_X4_22 {a r : Nat} (C : Cx X p s m args meth c RX4 cc nL rt mn) (hW : Wx X h H) (hZ : va_S (aA (eB X)) s.heap H locs) (hmn : mn = "<init>") (ha : hK h a = 4) (hr : hK h r = 17) (eh : h1 = wR h a 3 (some r)) (hdg : decode cc pc = .ok (.putfield 22, 3)) (kk : ∀ (H1 : Heap) (locs1 : List Loc), Wx X h1 H1 → Km h h1 → va_S (aA (eB X)) s.heap H1 locs1 → W p l e R s m args below meth c H1 locs1 cells slots Q (F0 m (pc + 3) ls rest)) : W p l e R s m args below meth c H locs cells slots Q (F0 m pc ls (.ref r :: .ref a :: rest)) :=
  y_putrF (ty := .array .int) C hW hZ ha i_X4 tyX4 tyX4_ok nmX4 (by decide) rfl rfl (by decide) m_532 rfl hmn rfl (by decide +kernel) rfl rfl rfl hr rfl (by decide) eh hdg kk
theorem pf_X4_19 {a r : Nat} (C : Cx X p s m args meth c RX4 cc nL rt mn) (hW : Wx X h H) (hZ : va_S (aA (eB X)) s.heap H locs) (hmn : mn = "<init>") (ha : hK h a = 4) (hr : hK h r = 23) (eh : h1 = wR h a 2 (some r)) (hdg : decode cc pc = .ok (.putfield 19, 3)) (kk : ∀ (H1 : Heap) (locs1 : List Loc), Wx X h1 H1 → Km h h1 → va_S (aA (eB X)) s.heap H1 locs1 → W p l e R s m args below meth c H1 locs1 cells slots Q (F0 m (pc + 3) ls rest)) : W p l e R s m args below meth c H locs cells slots Q (F0 m pc ls (.ref r :: .ref a :: rest)) :=
  y_putrF (ty := .array (.array .int)) C hW hZ ha i_X4 tyX4 tyX4_ok nmX4 (by decide) rfl rfl (by decide) m_531 rfl hmn rfl (by decide +kernel) rfl rfl rfl hr rfl (by decide) eh hdg kk
theorem pf_X4_13 {a r : Nat} (C : Cx X p s m args meth c RX4 cc nL rt mn) (hW : Wx X h H) (hZ : va_S (aA (eB X)) s.heap H locs) (hmn : mn = "<init>") (ha : hK h a = 4) (hr : hK h r = 20) (eh : h1 = wR h a 1 (some r)) (hdg : decode cc pc = .ok (.putfield 13, 3)) (kk : ∀ (H1 : Heap) (locs1 : List Loc), Wx X h1 H1 → Km h h1 → va_S (aA (eB X)) s.heap H1 locs1 → W p l e R s m args below meth c H1 locs1 cells slots Q (F0 m (pc + 3) ls rest)) : W p l e R s m args below meth c H locs cells slots Q (F0 m pc ls (.ref r :: .ref a :: rest)) :=
  y_putrF (ty := .array (.object "GameRules$Position")) C hW hZ ha i_X4 tyX4 tyX4_ok nmX4 (by decide) rfl rfl (by decide) m_530 rfl hmn rfl (by decide +kernel) rfl rfl rfl hr rfl (by decide) eh hdg kk
end
theorem ci_X4_49 : cwi RX4 49 yX3_init cX3_init 1 0 := ⟨m_269, m_528, m_8, m_268, rfl, by decide, by decide, by decide +kernel⟩
theorem dX4_init_0 : decode cX4_init 0 = .ok (.aload_n 0, 1) := by decide +kernel
theorem dX4_init_1 : decode cX4_init 1 = .ok (.invokespecial 3, 3) := by decide +kernel
theorem dX4_init_4 : decode cX4_init 4 = .ok (.aload_n 0, 1) := by decide +kernel
theorem dX4_init_5 : decode cX4_init 5 = .ok (.bipush 9, 2) := by decide +kernel
theorem dX4_init_7 : decode cX4_init 7 = .ok (.anewarray 11, 3) := by decide +kernel
theorem dX4_init_10 : decode cX4_init 10 = .ok (.putfield 13, 3) := by decide +kernel
theorem dX4_init_13 : decode cX4_init 13 = .ok (.aload_n 0, 1) := by decide +kernel
theorem dX4_init_14 : decode cX4_init 14 = .ok (.bipush 8, 2) := by decide +kernel
theorem dX4_init_16 : decode cX4_init 16 = .ok (.sipush 4096, 3) := by decide +kernel
theorem dX4_init_19 : decode cX4_init 19 = .ok (.multianewarray 17 2, 4) := by decide +kernel
theorem dX4_init_23 : decode cX4_init 23 = .ok (.putfield 19, 3) := by decide +kernel
theorem dX4_init_26 : decode cX4_init 26 = .ok (.aload_n 0, 1) := by decide +kernel
theorem dX4_init_27 : decode cX4_init 27 = .ok (.bipush 9, 2) := by decide +kernel
theorem dX4_init_29 : decode cX4_init 29 = .ok (.newarray .int, 2) := by decide +kernel
theorem dX4_init_31 : decode cX4_init 31 = .ok (.putfield 22, 3) := by decide +kernel
theorem dX4_init_34 : decode cX4_init 34 = .ok (.aload_n 0, 1) := by decide +kernel
theorem dX4_init_35 : decode cX4_init 35 = .ok (.bipush 8, 2) := by decide +kernel
theorem dX4_init_37 : decode cX4_init 37 = .ok (.newarray .int, 2) := by decide +kernel
theorem dX4_init_39 : decode cX4_init 39 = .ok (.putfield 26, 3) := by decide +kernel
theorem dX4_init_42 : decode cX4_init 42 = .ok (.aload_n 0, 1) := by decide +kernel
theorem dX4_init_43 : decode cX4_init 43 = .ok (.sipush 4096, 3) := by decide +kernel
theorem dX4_init_46 : decode cX4_init 46 = .ok (.newarray .int, 2) := by decide +kernel
theorem dX4_init_48 : decode cX4_init 48 = .ok (.putfield 29, 3) := by decide +kernel
theorem dX4_init_51 : decode cX4_init 51 = .ok (.aload_n 0, 1) := by decide +kernel
theorem dX4_init_52 : decode cX4_init 52 = .ok (.sipush 4096, 3) := by decide +kernel
theorem dX4_init_55 : decode cX4_init 55 = .ok (.newarray .int, 2) := by decide +kernel
theorem dX4_init_57 : decode cX4_init 57 = .ok (.putfield 32, 3) := by decide +kernel
theorem dX4_init_60 : decode cX4_init 60 = .ok (.aload_n 0, 1) := by decide +kernel
theorem dX4_init_61 : decode cX4_init 61 = .ok (.sipush 4096, 3) := by decide +kernel
theorem dX4_init_64 : decode cX4_init 64 = .ok (.newarray .int, 2) := by decide +kernel
theorem dX4_init_66 : decode cX4_init 66 = .ok (.putfield 35, 3) := by decide +kernel
theorem dX4_init_69 : decode cX4_init 69 = .ok (.aload_n 0, 1) := by decide +kernel
theorem dX4_init_70 : decode cX4_init 70 = .ok (.sipush 4096, 3) := by decide +kernel
theorem dX4_init_73 : decode cX4_init 73 = .ok (.newarray .int, 2) := by decide +kernel
theorem dX4_init_75 : decode cX4_init 75 = .ok (.putfield 38, 3) := by decide +kernel
theorem dX4_init_78 : decode cX4_init 78 = .ok (.aload_n 0, 1) := by decide +kernel
theorem dX4_init_79 : decode cX4_init 79 = .ok (.iconst (-1), 1) := by decide +kernel
theorem dX4_init_80 : decode cX4_init 80 = .ok (.putfield 41, 3) := by decide +kernel
theorem dX4_init_83 : decode cX4_init 83 = .ok (.aload_n 0, 1) := by decide +kernel
theorem dX4_init_84 : decode cX4_init 84 = .ok (.aload_n 1, 1) := by decide +kernel
theorem dX4_init_85 : decode cX4_init 85 = .ok (.putfield 45, 3) := by decide +kernel
theorem dX4_init_88 : decode cX4_init 88 = .ok (.iconst 0, 1) := by decide +kernel
theorem dX4_init_89 : decode cX4_init 89 = .ok (.istore_n 2, 1) := by decide +kernel
theorem dX4_init_90 : decode cX4_init 90 = .ok (.iload_n 2, 1) := by decide +kernel
theorem dX4_init_91 : decode cX4_init 91 = .ok (.bipush 8, 2) := by decide +kernel
theorem dX4_init_93 : decode cX4_init 93 = .ok (.if_icmp .gt 22, 3) := by decide +kernel
theorem dX4_init_96 : decode cX4_init 96 = .ok (.aload_n 0, 1) := by decide +kernel
theorem dX4_init_97 : decode cX4_init 97 = .ok (.getfield 13, 3) := by decide +kernel
theorem dX4_init_100 : decode cX4_init 100 = .ok (.iload_n 2, 1) := by decide +kernel
theorem dX4_init_101 : decode cX4_init 101 = .ok (.new 11, 3) := by decide +kernel
theorem dX4_init_104 : decode cX4_init 104 = .ok (.dup, 1) := by decide +kernel
theorem dX4_init_105 : decode cX4_init 105 = .ok (.invokespecial 49, 3) := by decide +kernel
theorem dX4_init_108 : decode cX4_init 108 = .ok (.aastore, 1) := by decide +kernel
theorem dX4_init_109 : decode cX4_init 109 = .ok (.iinc 2 1, 3) := by decide +kernel
theorem dX4_init_112 : decode cX4_init 112 = .ok (.goto (-22), 3) := by decide +kernel
theorem dX4_init_115 : decode cX4_init 115 = .ok (.return_, 1) := by decide +kernel
set_option maxRecDepth 20000 in
theorem moX4_init_108 {o : Hp} {k_90 : Hp → Nat → Int32 → Option (Hp)} {F : Nat} (mk_90 : ∀ (h : Hp) (x0 : Nat) (x2 : Int32), k_90 h x0 x2 = some o → Le h o) {h : Hp} {x0 : Nat} {x2 : Int32} {t0 : Nat} {t1 : Int32} {t2 : Nat} (hE : sX4_init_108 F k_90 h x0 x2 t0 t1 t2 = some o) : Le h o := by
  obtain ⟨g_1, hE⟩ := gd_e hE
  obtain ⟨h_2, eh_2, hE⟩ := nm_e2 hE
  refine (le_R eh_2).tr ?_
  obtain ⟨v_3, ev_3, hE⟩ := nm_e2 hE
  exact mk_90 _ _ _ hE
set_option maxRecDepth 20000 in
theorem moX4_init_104 {o : Hp} {k_90 : Hp → Nat → Int32 → Option (Hp)} {F : Nat} (mk_90 : ∀ (h : Hp) (x0 : Nat) (x2 : Int32), k_90 h x0 x2 = some o → Le h o) {h : Hp} {x0 : Nat} {x2 : Int32} {t0 : Nat} {t1 : Int32} {t2 : Nat} (hE : sX4_init_104 F k_90 h x0 x2 t0 t1 t2 = some o) : Le h o := by
  obtain ⟨o_1, eo_1, hE⟩ := cl_e hE
  refine (moX3_init eo_1).tr ?_
  exact moX4_init_108 mk_90 hE
set_option maxRecDepth 20000 in
theorem moX4_init_90 {o : Hp} {F : Nat} : ∀ (f : Nat) {h : Hp} {x0 : Nat} {x2 : Int32}, sX4_init_90 F f h x0 x2 = some o → Le h o := by
  intro f
  induction f with
  | zero =>
    intro h x0 x2 hE
    rw [sX4_init_90] at hE
    cases hE
  | succ f ih =>
    intro h x0 x2 hE
    rw [sX4_init_90] at hE
    have mk_90 : ∀ (h : Hp) (x0 : Nat) (x2 : Int32), sX4_init_90 F f h x0 x2 = some o → Le h o := fun h x0 x2 hE => ih hE
    rcases br_e hE with ⟨_, hE⟩ | ⟨_, hE⟩
    · exact le_some1 hE
    · obtain ⟨r_2, er_2, hE⟩ := cl_e hE
      obtain ⟨a_3, ea_3, hE⟩ := nm_e2 hE
      obtain ⟨h_4, eh_4, hE⟩ := nm_e2 hE
      refine (le_C eh_4).tr ?_
      exact moX4_init_104 mk_90 hE
set_option maxRecDepth 20000 in
theorem moX4_init_75 {o : Hp} {F : Nat} {h : Hp} {x0 : Nat} {x1 : Nat} {t0 : Nat} {t1 : Nat} (hE : sX4_init_75 F h x0 x1 t0 t1 = some o) : Le h o := by
  obtain ⟨h_1, eh_1, hE⟩ := nm_e2 hE
  refine (le_R eh_1).tr ?_
  obtain ⟨h_2, eh_2, hE⟩ := nm_e2 hE
  refine (le_I eh_2).tr ?_
  obtain ⟨h_3, eh_3, hE⟩ := nm_e2 hE
  refine (le_R eh_3).tr ?_
  exact moX4_init_90 _ hE
set_option maxRecDepth 20000 in
theorem moX4_init_66 {o : Hp} {F : Nat} {h : Hp} {x0 : Nat} {x1 : Nat} {t0 : Nat} {t1 : Nat} (hE : sX4_init_66 F h x0 x1 t0 t1 = some o) : Le h o := by
  obtain ⟨h_1, eh_1, hE⟩ := nm_e2 hE
  refine (le_R eh_1).tr ?_
  obtain ⟨a_2, ea_2, hE⟩ := nm_e2 hE
  obtain ⟨h_3, eh_3, hE⟩ := nm_e2 hE
  refine (le_C eh_3).tr ?_
  exact moX4_init_75 hE
set_option maxRecDepth 20000 in
theorem moX4_init_57 {o : Hp} {F : Nat} {h : Hp} {x0 : Nat} {x1 : Nat} {t0 : Nat} {t1 : Nat} (hE : sX4_init_57 F h x0 x1 t0 t1 = some o) : Le h o := by
  obtain ⟨h_1, eh_1, hE⟩ := nm_e2 hE
  refine (le_R eh_1).tr ?_
  obtain ⟨a_2, ea_2, hE⟩ := nm_e2 hE
  obtain ⟨h_3, eh_3, hE⟩ := nm_e2 hE
  refine (le_C eh_3).tr ?_
  exact moX4_init_66 hE
set_option maxRecDepth 20000 in
theorem moX4_init_48 {o : Hp} {F : Nat} {h : Hp} {x0 : Nat} {x1 : Nat} {t0 : Nat} {t1 : Nat} (hE : sX4_init_48 F h x0 x1 t0 t1 = some o) : Le h o := by
  obtain ⟨h_1, eh_1, hE⟩ := nm_e2 hE
  refine (le_R eh_1).tr ?_
  obtain ⟨a_2, ea_2, hE⟩ := nm_e2 hE
  obtain ⟨h_3, eh_3, hE⟩ := nm_e2 hE
  refine (le_C eh_3).tr ?_
  exact moX4_init_57 hE
set_option maxRecDepth 20000 in
theorem moX4_init_39 {o : Hp} {F : Nat} {h : Hp} {x0 : Nat} {x1 : Nat} {t0 : Nat} {t1 : Nat} (hE : sX4_init_39 F h x0 x1 t0 t1 = some o) : Le h o := by
  obtain ⟨h_1, eh_1, hE⟩ := nm_e2 hE
  refine (le_R eh_1).tr ?_
  obtain ⟨a_2, ea_2, hE⟩ := nm_e2 hE
  obtain ⟨h_3, eh_3, hE⟩ := nm_e2 hE
  refine (le_C eh_3).tr ?_
  exact moX4_init_48 hE
set_option maxRecDepth 20000 in
theorem moX4_init_31 {o : Hp} {F : Nat} {h : Hp} {x0 : Nat} {x1 : Nat} {t0 : Nat} {t1 : Nat} (hE : sX4_init_31 F h x0 x1 t0 t1 = some o) : Le h o := by
  obtain ⟨h_1, eh_1, hE⟩ := nm_e2 hE
  refine (le_R eh_1).tr ?_
  obtain ⟨a_2, ea_2, hE⟩ := nm_e2 hE
  obtain ⟨h_3, eh_3, hE⟩ := nm_e2 hE
  refine (le_C eh_3).tr ?_
  exact moX4_init_39 hE
set_option maxRecDepth 20000 in
theorem moX4_init_23 {o : Hp} {F : Nat} {h : Hp} {x0 : Nat} {x1 : Nat} {t0 : Nat} {t1 : Nat} (hE : sX4_init_23 F h x0 x1 t0 t1 = some o) : Le h o := by
  obtain ⟨h_1, eh_1, hE⟩ := nm_e2 hE
  refine (le_R eh_1).tr ?_
  obtain ⟨a_2, ea_2, hE⟩ := nm_e2 hE
  obtain ⟨h_3, eh_3, hE⟩ := nm_e2 hE
  refine (le_C eh_3).tr ?_
  exact moX4_init_31 hE
set_option maxRecDepth 20000 in
theorem moX4_init_10 {o : Hp} {F : Nat} {h : Hp} {x0 : Nat} {x1 : Nat} {t0 : Nat} {t1 : Nat} (hE : sX4_init_10 F h x0 x1 t0 t1 = some o) : Le h o := by
  obtain ⟨h_1, eh_1, hE⟩ := nm_e2 hE
  refine (le_R eh_1).tr ?_
  obtain ⟨a_2, ea_2, hE⟩ := nm_e2 hE
  obtain ⟨h_3, eh_3, hE⟩ := nm_e2 hE
  refine (le_M eh_3).tr ?_
  exact moX4_init_23 hE
set_option maxRecDepth 20000 in
theorem moX4_init {o : Hp} {F : Nat} {h : Hp} {x0 : Nat} {x1 : Nat} (hE : sX4_init F h x0 x1 = some o) : Le h o := by
  obtain ⟨a_1, ea_1, hE⟩ := nm_e2 hE
  obtain ⟨h_2, eh_2, hE⟩ := nm_e2 hE
  refine (le_C eh_2).tr ?_
  exact moX4_init_10 hE
set_option maxRecDepth 20000 in
theorem bX4_init_108 {p : Program} {l : Launch} {e : Env} {s : State} {m : MethodId} {args : Array Value} {below : List Frame} {meth : Method} {c : Code} {X : Ec} {h0 : Hp} {o : Hp} {k_90 : Hp → Nat → Int32 → Option (Hp)} {F : Nat} (C : Cx X p s m args meth c RX4 cX4_init 3 none "<init>") (hk_90 : ∀ (h : Hp) (x0 : Nat) (x2 : Int32) (H : Heap) (locs : List Loc), hK h x0 = 4 → Kl h0 h → Wx X h H → va_S (aA (eB X)) s.heap H locs → ∀ (ls : Array Slot), lv_has ls 3 [(0, .ref x0), (2, .int x2)] → k_90 h x0 x2 = some o → W p l e (rmA 2 43 h0 o) s m args below meth c H locs (hS h - hS h0) (hL h - hL h0) (MQ below (QVA X h0 o) args s (hS o - hS h0) (hL o - hL h0) (aA (eB X))) (F0 m 90 ls [])) (mk_90 : ∀ (h : Hp) (x0 : Nat) (x2 : Int32), k_90 h x0 x2 = some o → Le h o) {h : Hp} {x0 : Nat} {x2 : Int32} {t0 : Nat} {t1 : Int32} {t2 : Nat} {H : Heap} {locs : List Loc} (k_x0 : hK h x0 = 4) (k_t0 : hK h t0 = 3) (k_t2 : hK h t2 = 20) (hkl : Kl h0 h) (hW : Wx X h H) (hZ : va_S (aA (eB X)) s.heap H locs) (ls : Array Slot) (hl : lv_has ls 3 [(0, .ref x0), (2, .int x2)]) (hE : sX4_init_108 F k_90 h x0 x2 t0 t1 t2 = some o) : W p l e (rmA 2 43 h0 o) s m args below meth c H locs (hS h - hS h0) (hL h - hL h0) (MQ below (QVA X h0 o) args s (hS o - hS h0) (hL o - hL h0) (aA (eB X))) (F0 m 108 ls [.ref t0, .int t1, .ref t2]) := by
  obtain ⟨g_1, hE⟩ := gd_e hE
  obtain ⟨h_2, eh_2, hE⟩ := nm_e2 hE
  refine y_aast (t0 := 4) C hW hZ k_t2 (by decide) (by decide) rfl k_t0 (by decide) rfl (fun _ => rfl) g_1 eh_2 dX4_init_108 (fun _ _ hW km hZ => ?_)
  replace hkl := hkl.tr km.l
  refine x_wc km ?_
  replace k_x0 := km.at k_x0 (by decide)
  obtain ⟨v_3, ev_3, hE⟩ := nm_e2 hE
  refine lv_iinc (v := v_3) (lv' := [(2, .int v_3), (0, .ref x0)]) C.1 C.2.1 dX4_init_109 hl (k := 1) rfl (by rw [ev_3]; rfl) (by decide) rfl (fun ls hl => ?_)
  refine lv_goto (tgt := 90) C.1 C.2.1 dX4_init_112 (by decide) ?_
  exact hk_90 _ _ _ _ _ k_x0 hkl hW hZ _ (lv_sub hl [1, 0] rfl) hE
set_option maxRecDepth 20000 in
theorem bX4_init_104 {p : Program} {l : Launch} {e : Env} {s : State} {m : MethodId} {args : Array Value} {below : List Frame} {meth : Method} {c : Code} {X : Ec} {h0 : Hp} {o : Hp} {k_90 : Hp → Nat → Int32 → Option (Hp)} {F : Nat} (C : Cx X p s m args meth c RX4 cX4_init 3 none "<init>") (hk_90 : ∀ (h : Hp) (x0 : Nat) (x2 : Int32) (H : Heap) (locs : List Loc), hK h x0 = 4 → Kl h0 h → Wx X h H → va_S (aA (eB X)) s.heap H locs → ∀ (ls : Array Slot), lv_has ls 3 [(0, .ref x0), (2, .int x2)] → k_90 h x0 x2 = some o → W p l e (rmA 2 43 h0 o) s m args below meth c H locs (hS h - hS h0) (hL h - hL h0) (MQ below (QVA X h0 o) args s (hS o - hS h0) (hL o - hL h0) (aA (eB X))) (F0 m 90 ls [])) (mk_90 : ∀ (h : Hp) (x0 : Nat) (x2 : Int32), k_90 h x0 x2 = some o → Le h o) {h : Hp} {x0 : Nat} {x2 : Int32} {t0 : Nat} {t1 : Int32} {t2 : Nat} {H : Heap} {locs : List Loc} (k_x0 : hK h x0 = 4) (k_t0 : hK h t0 = 3) (k_t2 : hK h t2 = 20) (hkl : Kl h0 h) (hW : Wx X h H) (hZ : va_S (aA (eB X)) s.heap H locs) (ls : Array Slot) (hl : lv_has ls 3 [(0, .ref x0), (2, .int x2)]) (hE : sX4_init_104 F k_90 h x0 x2 t0 t1 t2 = some o) : W p l e (rmA 2 43 h0 o) s m args below meth c H locs (hS h - hS h0) (hL h - hL h0) (MQ below (QVA X h0 o) args s (hS o - hS h0) (hL o - hL h0) (aA (eB X))) (F0 m 104 ls [.ref t0, .int t1, .ref t2]) := by
  refine lv_dup C.1 C.2.1 dX4_init_104 rfl ?_
  obtain ⟨o_1, eo_1, hE⟩ := cl_e hE
  have m1 := moX3_init eo_1
  have m2 := moX4_init_108 mk_90 hE
  refine x_kVA (o := o_1) hkl (z_runI (As := []) (rest := [.ref t0, .int t1, .ref t2]) C (ct_X3_init l X F k_t0 eo_1) ci_X4_49 hW hZ rfl hl.1 (Nat.le_of_ble_eq_true rfl) rfl dX4_init_105 ⟨Nat.le_of_ble_eq_true rfl, Nat.le_of_ble_eq_true rfl⟩ (rm_ok hkl m1 m2)) hZ (fun _ _ hW km hZ => ?_)
  replace hkl := hkl.tr km
  replace k_x0 := km.at k_x0 (by decide)
  replace k_t0 := km.at k_t0 (by decide)
  replace k_t2 := km.at k_t2 (by decide)
  exact bX4_init_108 C hk_90 mk_90 k_x0 k_t0 k_t2 hkl hW hZ _ (lv_sub hl [0, 1] rfl) hE
set_option maxRecDepth 20000 in
theorem bX4_init_90 {p : Program} {l : Launch} {e : Env} {s : State} {m : MethodId} {args : Array Value} {below : List Frame} {meth : Method} {c : Code} {X : Ec} {h0 : Hp} {o : Hp} {F : Nat} (C : Cx X p s m args meth c RX4 cX4_init 3 none "<init>") : ∀ (f : Nat) {h : Hp} {x0 : Nat} {x2 : Int32} {H : Heap} {locs : List Loc} (k_x0 : hK h x0 = 4), Kl h0 h → Wx X h H → va_S (aA (eB X)) s.heap H locs → ∀ (ls : Array Slot), lv_has ls 3 [(0, .ref x0), (2, .int x2)] → sX4_init_90 F f h x0 x2 = some o → W p l e (rmA 2 43 h0 o) s m args below meth c H locs (hS h - hS h0) (hL h - hL h0) (MQ below (QVA X h0 o) args s (hS o - hS h0) (hL o - hL h0) (aA (eB X))) (F0 m 90 ls []) := by
  intro f
  induction f with
  | zero =>
    intro h x0 x2 H locs k_x0 hkl hW hZ ls hl hE
    rw [sX4_init_90] at hE
    cases hE
  | succ f ih =>
    intro h x0 x2 H locs k_x0 hkl hW hZ ls hl hE
    rw [sX4_init_90] at hE
    have mk_90 : ∀ (h : Hp) (x0 : Nat) (x2 : Int32), sX4_init_90 F f h x0 x2 = some o → Le h o := fun h x0 x2 hE => moX4_init_90 _ hE
    have hk_90 : ∀ (h : Hp) (x0 : Nat) (x2 : Int32) (H : Heap) (locs : List Loc), hK h x0 = 4 → Kl h0 h → Wx X h H → va_S (aA (eB X)) s.heap H locs → ∀ (ls : Array Slot), lv_has ls 3 [(0, .ref x0), (2, .int x2)] → sX4_init_90 F f h x0 x2 = some o → W p l e (rmA 2 43 h0 o) s m args below meth c H locs (hS h - hS h0) (hL h - hL h0) (MQ below (QVA X h0 o) args s (hS o - hS h0) (hL o - hL h0) (aA (eB X))) (F0 m 90 ls []) := fun h x0 x2 H locs k_x0 a b c ls hl hE => ih k_x0 a b c ls hl hE
    refine lv_iload_n C.1 C.2.1 dX4_init_90 rfl (lv_at hl 1 rfl) ?_
    refine lv_bipush (v := (8 : Int32)) C.1 C.2.1 dX4_init_91 (by decide) ?_
    refine lv_icmp_gt (tgt := 115) C.1 C.2.1 dX4_init_93 (by decide) (fun c_1 => ?_) (fun c_1 => ?_)
    · have hE := br_p hE c_1
      exact x_vretA C rfl hW hZ hkl hE dX4_init_115
    · have hE := br_n hE c_1
      refine lv_aload_n C.1 C.2.1 dX4_init_96 rfl (lv_at hl 0 rfl) ?_
      obtain ⟨r_2, er_2, hE⟩ := cl_e hE
      refine gf_X4_13 C hW k_x0 er_2 dX4_init_97 (fun k_r_2 => ?_)
      refine lv_iload_n C.1 C.2.1 dX4_init_100 rfl (lv_at hl 1 rfl) ?_
      obtain ⟨a_3, ea_3, hE⟩ := nm_e2 hE
      obtain ⟨h_4, eh_4, hE⟩ := nm_e2 hE
      refine y_new C hW hZ hkl (moX4_init_104 mk_90 hE) ⟨rfl, rfl⟩ i_X3 tyX3 tyX3_ok (by decide) rfl rfl dv_X3 m_524 m_266 m_8 eh_4 dX4_init_101 (fun _ hW km k_a_3 hZ => ?_)
      replace hkl := hkl.tr km
      refine x_nmA ea_3 ?_
      rw [← ea_3] at k_a_3
      replace k_x0 := km.at k_x0 (by decide)
      replace k_r_2 := km.at k_r_2 (by decide)
      exact bX4_init_104 C hk_90 mk_90 k_x0 k_a_3 k_r_2 hkl hW hZ _ (lv_sub hl [0, 1] rfl) hE
set_option maxRecDepth 20000 in
theorem bX4_init_75 {p : Program} {l : Launch} {e : Env} {s : State} {m : MethodId} {args : Array Value} {below : List Frame} {meth : Method} {c : Code} {X : Ec} {h0 : Hp} {o : Hp} {F : Nat} (C : Cx X p s m args meth c RX4 cX4_init 3 none "<init>") {h : Hp} {x0 : Nat} {x1 : Nat} {t0 : Nat} {t1 : Nat} {H : Heap} {locs : List Loc} (k_x0 : hK h x0 = 4) (k_x1 : hK h x1 = 5) (k_t0 : hK h t0 = 17) (k_t1 : hK h t1 = 4) (hkl : Kl h0 h) (hW : Wx X h H) (hZ : va_S (aA (eB X)) s.heap H locs) (ls : Array Slot) (hl : lv_has ls 3 [(0, .ref x0), (1, .ref x1)]) (hE : sX4_init_75 F h x0 x1 t0 t1 = some o) : W p l e (rmA 2 43 h0 o) s m args below meth c H locs (hS h - hS h0) (hL h - hL h0) (MQ below (QVA X h0 o) args s (hS o - hS h0) (hL o - hL h0) (aA (eB X))) (F0 m 75 ls [.ref t0, .ref t1]) := by
  obtain ⟨h_1, eh_1, hE⟩ := nm_e2 hE
  refine pf_X4_38 C hW hZ rfl k_t1 k_t0 eh_1 dX4_init_75 (fun _ _ hW km hZ => ?_)
  replace hkl := hkl.tr km.l
  refine x_wc km ?_
  replace k_x0 := km.at k_x0 (by decide)
  replace k_x1 := km.at k_x1 (by decide)
  refine lv_aload_n C.1 C.2.1 dX4_init_78 rfl (lv_at hl 0 rfl) ?_
  refine lv_iconst (v := (-1 : Int32)) C.1 C.2.1 dX4_init_79 (by decide) ?_
  obtain ⟨h_2, eh_2, hE⟩ := nm_e2 hE
  refine pf_X4_41 C hW hZ k_x0 eh_2 dX4_init_80 (fun _ _ hW km hZ => ?_)
  replace hkl := hkl.tr km.l
  refine x_wc km ?_
  replace k_x0 := km.at k_x0 (by decide)
  replace k_x1 := km.at k_x1 (by decide)
  refine lv_aload_n C.1 C.2.1 dX4_init_83 rfl (lv_at hl 0 rfl) ?_
  refine lv_aload_n C.1 C.2.1 dX4_init_84 rfl (lv_at hl 1 rfl) ?_
  obtain ⟨h_3, eh_3, hE⟩ := nm_e2 hE
  refine pf_X4_45 C hW hZ rfl k_x0 k_x1 eh_3 dX4_init_85 (fun _ _ hW km hZ => ?_)
  replace hkl := hkl.tr km.l
  refine x_wc km ?_
  replace k_x0 := km.at k_x0 (by decide)
  replace k_x1 := km.at k_x1 (by decide)
  refine lv_iconst (v := (0 : Int32)) C.1 C.2.1 dX4_init_88 (by decide) ?_
  refine lv_istore_n (lv' := [(2, .int (0 : Int32)), (0, .ref x0), (1, .ref x1)]) C.1 C.2.1 dX4_init_89 rfl hl (by decide) rfl (fun ls hl => ?_)
  exact bX4_init_90 C F k_x0 hkl hW hZ _ (lv_sub hl [1, 0] rfl) hE
set_option maxRecDepth 20000 in
theorem bX4_init_66 {p : Program} {l : Launch} {e : Env} {s : State} {m : MethodId} {args : Array Value} {below : List Frame} {meth : Method} {c : Code} {X : Ec} {h0 : Hp} {o : Hp} {F : Nat} (C : Cx X p s m args meth c RX4 cX4_init 3 none "<init>") {h : Hp} {x0 : Nat} {x1 : Nat} {t0 : Nat} {t1 : Nat} {H : Heap} {locs : List Loc} (k_x0 : hK h x0 = 4) (k_x1 : hK h x1 = 5) (k_t0 : hK h t0 = 17) (k_t1 : hK h t1 = 4) (hkl : Kl h0 h) (hW : Wx X h H) (hZ : va_S (aA (eB X)) s.heap H locs) (ls : Array Slot) (hl : lv_has ls 3 [(0, .ref x0), (1, .ref x1)]) (hE : sX4_init_66 F h x0 x1 t0 t1 = some o) : W p l e (rmA 2 43 h0 o) s m args below meth c H locs (hS h - hS h0) (hL h - hL h0) (MQ below (QVA X h0 o) args s (hS o - hS h0) (hL o - hL h0) (aA (eB X))) (F0 m 66 ls [.ref t0, .ref t1]) := by
  obtain ⟨h_1, eh_1, hE⟩ := nm_e2 hE
  refine pf_X4_35 C hW hZ rfl k_t1 k_t0 eh_1 dX4_init_66 (fun _ _ hW km hZ => ?_)
  replace hkl := hkl.tr km.l
  refine x_wc km ?_
  replace k_x0 := km.at k_x0 (by decide)
  replace k_x1 := km.at k_x1 (by decide)
  refine lv_aload_n C.1 C.2.1 dX4_init_69 rfl (lv_at hl 0 rfl) ?_
  refine lv_sipush (v := (4096 : Int32)) C.1 C.2.1 dX4_init_70 (by decide) ?_
  obtain ⟨a_2, ea_2, hE⟩ := nm_e2 hE
  obtain ⟨h_3, eh_3, hE⟩ := nm_e2 hE
  refine y_newa (k := 17) (ty := .int) (t0 := 1) C hW hZ hkl (moX4_init_75 hE) ⟨rfl, rfl⟩ (by decide) (by decide) rfl rfl (by intro C hC; cases hC) hdef_17 m_54 (by decide) (by decide) eh_3 dX4_init_73 (fun _ hW km k_a_2 hZ => ?_)
  replace hkl := hkl.tr km
  refine x_nmA ea_2 ?_
  rw [← ea_2] at k_a_2
  replace k_x0 := km.at k_x0 (by decide)
  replace k_x1 := km.at k_x1 (by decide)
  exact bX4_init_75 C k_x0 k_x1 k_a_2 k_x0 hkl hW hZ _ (lv_sub hl [0, 1] rfl) hE
set_option maxRecDepth 20000 in
theorem bX4_init_57 {p : Program} {l : Launch} {e : Env} {s : State} {m : MethodId} {args : Array Value} {below : List Frame} {meth : Method} {c : Code} {X : Ec} {h0 : Hp} {o : Hp} {F : Nat} (C : Cx X p s m args meth c RX4 cX4_init 3 none "<init>") {h : Hp} {x0 : Nat} {x1 : Nat} {t0 : Nat} {t1 : Nat} {H : Heap} {locs : List Loc} (k_x0 : hK h x0 = 4) (k_x1 : hK h x1 = 5) (k_t0 : hK h t0 = 17) (k_t1 : hK h t1 = 4) (hkl : Kl h0 h) (hW : Wx X h H) (hZ : va_S (aA (eB X)) s.heap H locs) (ls : Array Slot) (hl : lv_has ls 3 [(0, .ref x0), (1, .ref x1)]) (hE : sX4_init_57 F h x0 x1 t0 t1 = some o) : W p l e (rmA 2 43 h0 o) s m args below meth c H locs (hS h - hS h0) (hL h - hL h0) (MQ below (QVA X h0 o) args s (hS o - hS h0) (hL o - hL h0) (aA (eB X))) (F0 m 57 ls [.ref t0, .ref t1]) := by
  obtain ⟨h_1, eh_1, hE⟩ := nm_e2 hE
  refine pf_X4_32 C hW hZ rfl k_t1 k_t0 eh_1 dX4_init_57 (fun _ _ hW km hZ => ?_)
  replace hkl := hkl.tr km.l
  refine x_wc km ?_
  replace k_x0 := km.at k_x0 (by decide)
  replace k_x1 := km.at k_x1 (by decide)
  refine lv_aload_n C.1 C.2.1 dX4_init_60 rfl (lv_at hl 0 rfl) ?_
  refine lv_sipush (v := (4096 : Int32)) C.1 C.2.1 dX4_init_61 (by decide) ?_
  obtain ⟨a_2, ea_2, hE⟩ := nm_e2 hE
  obtain ⟨h_3, eh_3, hE⟩ := nm_e2 hE
  refine y_newa (k := 17) (ty := .int) (t0 := 1) C hW hZ hkl (moX4_init_66 hE) ⟨rfl, rfl⟩ (by decide) (by decide) rfl rfl (by intro C hC; cases hC) hdef_17 m_54 (by decide) (by decide) eh_3 dX4_init_64 (fun _ hW km k_a_2 hZ => ?_)
  replace hkl := hkl.tr km
  refine x_nmA ea_2 ?_
  rw [← ea_2] at k_a_2
  replace k_x0 := km.at k_x0 (by decide)
  replace k_x1 := km.at k_x1 (by decide)
  exact bX4_init_66 C k_x0 k_x1 k_a_2 k_x0 hkl hW hZ _ (lv_sub hl [0, 1] rfl) hE
set_option maxRecDepth 20000 in
theorem bX4_init_48 {p : Program} {l : Launch} {e : Env} {s : State} {m : MethodId} {args : Array Value} {below : List Frame} {meth : Method} {c : Code} {X : Ec} {h0 : Hp} {o : Hp} {F : Nat} (C : Cx X p s m args meth c RX4 cX4_init 3 none "<init>") {h : Hp} {x0 : Nat} {x1 : Nat} {t0 : Nat} {t1 : Nat} {H : Heap} {locs : List Loc} (k_x0 : hK h x0 = 4) (k_x1 : hK h x1 = 5) (k_t0 : hK h t0 = 17) (k_t1 : hK h t1 = 4) (hkl : Kl h0 h) (hW : Wx X h H) (hZ : va_S (aA (eB X)) s.heap H locs) (ls : Array Slot) (hl : lv_has ls 3 [(0, .ref x0), (1, .ref x1)]) (hE : sX4_init_48 F h x0 x1 t0 t1 = some o) : W p l e (rmA 2 43 h0 o) s m args below meth c H locs (hS h - hS h0) (hL h - hL h0) (MQ below (QVA X h0 o) args s (hS o - hS h0) (hL o - hL h0) (aA (eB X))) (F0 m 48 ls [.ref t0, .ref t1]) := by
  obtain ⟨h_1, eh_1, hE⟩ := nm_e2 hE
  refine pf_X4_29 C hW hZ rfl k_t1 k_t0 eh_1 dX4_init_48 (fun _ _ hW km hZ => ?_)
  replace hkl := hkl.tr km.l
  refine x_wc km ?_
  replace k_x0 := km.at k_x0 (by decide)
  replace k_x1 := km.at k_x1 (by decide)
  refine lv_aload_n C.1 C.2.1 dX4_init_51 rfl (lv_at hl 0 rfl) ?_
  refine lv_sipush (v := (4096 : Int32)) C.1 C.2.1 dX4_init_52 (by decide) ?_
  obtain ⟨a_2, ea_2, hE⟩ := nm_e2 hE
  obtain ⟨h_3, eh_3, hE⟩ := nm_e2 hE
  refine y_newa (k := 17) (ty := .int) (t0 := 1) C hW hZ hkl (moX4_init_57 hE) ⟨rfl, rfl⟩ (by decide) (by decide) rfl rfl (by intro C hC; cases hC) hdef_17 m_54 (by decide) (by decide) eh_3 dX4_init_55 (fun _ hW km k_a_2 hZ => ?_)
  replace hkl := hkl.tr km
  refine x_nmA ea_2 ?_
  rw [← ea_2] at k_a_2
  replace k_x0 := km.at k_x0 (by decide)
  replace k_x1 := km.at k_x1 (by decide)
  exact bX4_init_57 C k_x0 k_x1 k_a_2 k_x0 hkl hW hZ _ (lv_sub hl [0, 1] rfl) hE
set_option maxRecDepth 20000 in
theorem bX4_init_39 {p : Program} {l : Launch} {e : Env} {s : State} {m : MethodId} {args : Array Value} {below : List Frame} {meth : Method} {c : Code} {X : Ec} {h0 : Hp} {o : Hp} {F : Nat} (C : Cx X p s m args meth c RX4 cX4_init 3 none "<init>") {h : Hp} {x0 : Nat} {x1 : Nat} {t0 : Nat} {t1 : Nat} {H : Heap} {locs : List Loc} (k_x0 : hK h x0 = 4) (k_x1 : hK h x1 = 5) (k_t0 : hK h t0 = 17) (k_t1 : hK h t1 = 4) (hkl : Kl h0 h) (hW : Wx X h H) (hZ : va_S (aA (eB X)) s.heap H locs) (ls : Array Slot) (hl : lv_has ls 3 [(0, .ref x0), (1, .ref x1)]) (hE : sX4_init_39 F h x0 x1 t0 t1 = some o) : W p l e (rmA 2 43 h0 o) s m args below meth c H locs (hS h - hS h0) (hL h - hL h0) (MQ below (QVA X h0 o) args s (hS o - hS h0) (hL o - hL h0) (aA (eB X))) (F0 m 39 ls [.ref t0, .ref t1]) := by
  obtain ⟨h_1, eh_1, hE⟩ := nm_e2 hE
  refine pf_X4_26 C hW hZ rfl k_t1 k_t0 eh_1 dX4_init_39 (fun _ _ hW km hZ => ?_)
  replace hkl := hkl.tr km.l
  refine x_wc km ?_
  replace k_x0 := km.at k_x0 (by decide)
  replace k_x1 := km.at k_x1 (by decide)
  refine lv_aload_n C.1 C.2.1 dX4_init_42 rfl (lv_at hl 0 rfl) ?_
  refine lv_sipush (v := (4096 : Int32)) C.1 C.2.1 dX4_init_43 (by decide) ?_
  obtain ⟨a_2, ea_2, hE⟩ := nm_e2 hE
  obtain ⟨h_3, eh_3, hE⟩ := nm_e2 hE
  refine y_newa (k := 17) (ty := .int) (t0 := 1) C hW hZ hkl (moX4_init_48 hE) ⟨rfl, rfl⟩ (by decide) (by decide) rfl rfl (by intro C hC; cases hC) hdef_17 m_54 (by decide) (by decide) eh_3 dX4_init_46 (fun _ hW km k_a_2 hZ => ?_)
  replace hkl := hkl.tr km
  refine x_nmA ea_2 ?_
  rw [← ea_2] at k_a_2
  replace k_x0 := km.at k_x0 (by decide)
  replace k_x1 := km.at k_x1 (by decide)
  exact bX4_init_48 C k_x0 k_x1 k_a_2 k_x0 hkl hW hZ _ (lv_sub hl [0, 1] rfl) hE
set_option maxRecDepth 20000 in
theorem bX4_init_31 {p : Program} {l : Launch} {e : Env} {s : State} {m : MethodId} {args : Array Value} {below : List Frame} {meth : Method} {c : Code} {X : Ec} {h0 : Hp} {o : Hp} {F : Nat} (C : Cx X p s m args meth c RX4 cX4_init 3 none "<init>") {h : Hp} {x0 : Nat} {x1 : Nat} {t0 : Nat} {t1 : Nat} {H : Heap} {locs : List Loc} (k_x0 : hK h x0 = 4) (k_x1 : hK h x1 = 5) (k_t0 : hK h t0 = 17) (k_t1 : hK h t1 = 4) (hkl : Kl h0 h) (hW : Wx X h H) (hZ : va_S (aA (eB X)) s.heap H locs) (ls : Array Slot) (hl : lv_has ls 3 [(0, .ref x0), (1, .ref x1)]) (hE : sX4_init_31 F h x0 x1 t0 t1 = some o) : W p l e (rmA 2 43 h0 o) s m args below meth c H locs (hS h - hS h0) (hL h - hL h0) (MQ below (QVA X h0 o) args s (hS o - hS h0) (hL o - hL h0) (aA (eB X))) (F0 m 31 ls [.ref t0, .ref t1]) := by
  obtain ⟨h_1, eh_1, hE⟩ := nm_e2 hE
  refine pf_X4_22 C hW hZ rfl k_t1 k_t0 eh_1 dX4_init_31 (fun _ _ hW km hZ => ?_)
  replace hkl := hkl.tr km.l
  refine x_wc km ?_
  replace k_x0 := km.at k_x0 (by decide)
  replace k_x1 := km.at k_x1 (by decide)
  refine lv_aload_n C.1 C.2.1 dX4_init_34 rfl (lv_at hl 0 rfl) ?_
  refine lv_bipush (v := (8 : Int32)) C.1 C.2.1 dX4_init_35 (by decide) ?_
  obtain ⟨a_2, ea_2, hE⟩ := nm_e2 hE
  obtain ⟨h_3, eh_3, hE⟩ := nm_e2 hE
  refine y_newa (k := 17) (ty := .int) (t0 := 1) C hW hZ hkl (moX4_init_39 hE) ⟨rfl, rfl⟩ (by decide) (by decide) rfl rfl (by intro C hC; cases hC) hdef_17 m_54 (by decide) (by decide) eh_3 dX4_init_37 (fun _ hW km k_a_2 hZ => ?_)
  replace hkl := hkl.tr km
  refine x_nmA ea_2 ?_
  rw [← ea_2] at k_a_2
  replace k_x0 := km.at k_x0 (by decide)
  replace k_x1 := km.at k_x1 (by decide)
  exact bX4_init_39 C k_x0 k_x1 k_a_2 k_x0 hkl hW hZ _ (lv_sub hl [0, 1] rfl) hE
set_option maxRecDepth 20000 in
theorem bX4_init_23 {p : Program} {l : Launch} {e : Env} {s : State} {m : MethodId} {args : Array Value} {below : List Frame} {meth : Method} {c : Code} {X : Ec} {h0 : Hp} {o : Hp} {F : Nat} (C : Cx X p s m args meth c RX4 cX4_init 3 none "<init>") {h : Hp} {x0 : Nat} {x1 : Nat} {t0 : Nat} {t1 : Nat} {H : Heap} {locs : List Loc} (k_x0 : hK h x0 = 4) (k_x1 : hK h x1 = 5) (k_t0 : hK h t0 = 23) (k_t1 : hK h t1 = 4) (hkl : Kl h0 h) (hW : Wx X h H) (hZ : va_S (aA (eB X)) s.heap H locs) (ls : Array Slot) (hl : lv_has ls 3 [(0, .ref x0), (1, .ref x1)]) (hE : sX4_init_23 F h x0 x1 t0 t1 = some o) : W p l e (rmA 2 43 h0 o) s m args below meth c H locs (hS h - hS h0) (hL h - hL h0) (MQ below (QVA X h0 o) args s (hS o - hS h0) (hL o - hL h0) (aA (eB X))) (F0 m 23 ls [.ref t0, .ref t1]) := by
  obtain ⟨h_1, eh_1, hE⟩ := nm_e2 hE
  refine pf_X4_19 C hW hZ rfl k_t1 k_t0 eh_1 dX4_init_23 (fun _ _ hW km hZ => ?_)
  replace hkl := hkl.tr km.l
  refine x_wc km ?_
  replace k_x0 := km.at k_x0 (by decide)
  replace k_x1 := km.at k_x1 (by decide)
  refine lv_aload_n C.1 C.2.1 dX4_init_26 rfl (lv_at hl 0 rfl) ?_
  refine lv_bipush (v := (9 : Int32)) C.1 C.2.1 dX4_init_27 (by decide) ?_
  obtain ⟨a_2, ea_2, hE⟩ := nm_e2 hE
  obtain ⟨h_3, eh_3, hE⟩ := nm_e2 hE
  refine y_newa (k := 17) (ty := .int) (t0 := 1) C hW hZ hkl (moX4_init_31 hE) ⟨rfl, rfl⟩ (by decide) (by decide) rfl rfl (by intro C hC; cases hC) hdef_17 m_54 (by decide) (by decide) eh_3 dX4_init_29 (fun _ hW km k_a_2 hZ => ?_)
  replace hkl := hkl.tr km
  refine x_nmA ea_2 ?_
  rw [← ea_2] at k_a_2
  replace k_x0 := km.at k_x0 (by decide)
  replace k_x1 := km.at k_x1 (by decide)
  exact bX4_init_31 C k_x0 k_x1 k_a_2 k_x0 hkl hW hZ _ (lv_sub hl [0, 1] rfl) hE
set_option maxRecDepth 20000 in
theorem bX4_init_10 {p : Program} {l : Launch} {e : Env} {s : State} {m : MethodId} {args : Array Value} {below : List Frame} {meth : Method} {c : Code} {X : Ec} {h0 : Hp} {o : Hp} {F : Nat} (C : Cx X p s m args meth c RX4 cX4_init 3 none "<init>") {h : Hp} {x0 : Nat} {x1 : Nat} {t0 : Nat} {t1 : Nat} {H : Heap} {locs : List Loc} (k_x0 : hK h x0 = 4) (k_x1 : hK h x1 = 5) (k_t0 : hK h t0 = 20) (k_t1 : hK h t1 = 4) (hkl : Kl h0 h) (hW : Wx X h H) (hZ : va_S (aA (eB X)) s.heap H locs) (ls : Array Slot) (hl : lv_has ls 3 [(0, .ref x0), (1, .ref x1)]) (hE : sX4_init_10 F h x0 x1 t0 t1 = some o) : W p l e (rmA 2 43 h0 o) s m args below meth c H locs (hS h - hS h0) (hL h - hL h0) (MQ below (QVA X h0 o) args s (hS o - hS h0) (hL o - hL h0) (aA (eB X))) (F0 m 10 ls [.ref t0, .ref t1]) := by
  obtain ⟨h_1, eh_1, hE⟩ := nm_e2 hE
  refine pf_X4_13 C hW hZ rfl k_t1 k_t0 eh_1 dX4_init_10 (fun _ _ hW km hZ => ?_)
  replace hkl := hkl.tr km.l
  refine x_wc km ?_
  replace k_x0 := km.at k_x0 (by decide)
  replace k_x1 := km.at k_x1 (by decide)
  refine lv_aload_n C.1 C.2.1 dX4_init_13 rfl (lv_at hl 0 rfl) ?_
  refine lv_bipush (v := (8 : Int32)) C.1 C.2.1 dX4_init_14 (by decide) ?_
  refine lv_sipush (v := (4096 : Int32)) C.1 C.2.1 dX4_init_16 (by decide) ?_
  obtain ⟨a_2, ea_2, hE⟩ := nm_e2 hE
  obtain ⟨h_3, eh_3, hE⟩ := nm_e2 hE
  refine y_mna C hW hZ hkl (moX4_init_23 hE) ⟨rfl, rfl⟩ m_526 m_54 (by decide) (by decide) (by decide) (by decide) (by decide) eh_3 dX4_init_19 (fun _ hW km k_a_2 hZ => ?_)
  replace hkl := hkl.tr km
  refine x_nmA ea_2 ?_
  rw [← ea_2] at k_a_2
  replace k_x0 := km.at k_x0 (by decide)
  replace k_x1 := km.at k_x1 (by decide)
  exact bX4_init_23 C k_x0 k_x1 k_a_2 k_x0 hkl hW hZ _ (lv_sub hl [0, 1] rfl) hE
set_option maxRecDepth 20000 in
theorem ct_X4_init (l : Launch) (X : Ec) (F : Nat) {h : Hp} {x0 : Nat} {x1 : Nat} {o : Hp} (k_x0 : hK h x0 = 4) (k_x1 : hK h x1 = 5) (hE : sX4_init F h x0 x1 = some o) : MetVA l yX4_init cX4_init 3 none 2 43 X [.ref x0, .ref x1] h o := by
  refine x_metA (oh := o) (by decide) (Nat.le_of_ble_eq_true rfl) ?_
  intro p e s m below meth c ls C hl hW hZ
  have hl : lv_has ls 3 [(0, .ref x0), (1, .ref x1)] := hl
  have hkl : Kl h h := Kl.rf h
  refine lv_aload_n C.1 C.2.1 dX4_init_0 rfl (lv_at hl 0 rfl) ?_
  refine W.objInit C.1 C.2.1 C.2.2.2.1 (C.2.2.2.2.1 _ m_523) (C.2.2.2.2.1 _ m_32) (C.2.2.2.2.1 _ m_33) rfl (by rw [C.2.2.1]; exact hl.1) rfl dX4_init_1 (Nat.le_of_ble_eq_true rfl) (Nat.le_of_ble_eq_true rfl) ?_
  refine W.eq (g2 := F0 m 4 ls []) rfl ?_
  refine lv_aload_n C.1 C.2.1 dX4_init_4 rfl (lv_at hl 0 rfl) ?_
  refine lv_bipush (v := (9 : Int32)) C.1 C.2.1 dX4_init_5 (by decide) ?_
  obtain ⟨a_1, ea_1, hE⟩ := nm_e2 hE
  obtain ⟨h_2, eh_2, hE⟩ := nm_e2 hE
  refine y_newq (k := 20) (t0 := 4) C hW hZ hkl (moX4_init_10 hE) ⟨rfl, rfl⟩ (by decide) (by decide) rfl m_524 C.2.2.2.2.2.2.2.2.2.2.2.2.2.1 (by decide) (by decide) eh_2 dX4_init_7 (fun _ hW km k_a_1 hZ => ?_)
  replace hkl := hkl.tr km
  refine x_nmA ea_1 ?_
  rw [← ea_1] at k_a_1
  replace k_x0 := km.at k_x0 (by decide)
  replace k_x1 := km.at k_x1 (by decide)
  exact bX4_init_10 C k_x0 k_x1 k_a_1 k_x0 hkl hW hZ _ (lv_sub hl [0, 1] rfl) hE
set_option maxRecDepth 100000 in
theorem m_544 : Cond.fieldLink RX4 130 (TX4 14).1 (TX4 14).2.1 (TX4 14).2.2.1 ∈ W0 := w0_in (List.mem_append_right _ (List.mem_of_getElem? (i := 544) rfl)) rfl
set_option maxRecDepth 100000 in
theorem m_545 : Cond.fieldLink RX4 133 (TX4 15).1 (TX4 15).2.1 (TX4 15).2.2.1 ∈ W0 := w0_in (List.mem_append_right _ (List.mem_of_getElem? (i := 545) rfl)) rfl
section
variable {p : Program} {l : Launch} {e : Env} {R : Room} {s : State} {m : MethodId} {args : Array Value} {below : List Frame} {meth : Method} {c : Code} {H : Heap} {locs : List Loc} {cells slots : Nat} {Q : State → Prop}
variable {cc : ByteArray} {pc : Nat} {ls : Array Slot} {rest : List Value} {X : Ec} {h h1 : Hp} {nL : Nat} {rt : Option FieldType} {mn : String}
theorem gf_X4_41 {a : Nat} (C : Cx X p s m args meth c RX4 cc nL rt mn) (hW : Wx X h H) (ha : hK h a = 4) (hdg : decode cc pc = .ok (.getfield 41, 3)) (kk : W p l e R s m args below meth c H locs cells slots Q (F0 m (pc + 3) ls (.int (hI h a 16) :: rest))) : W p l e R s m args below meth c H locs cells slots Q (F0 m pc ls (.ref a :: rest)) :=
  y_geti C hW ha i_X4 (by decide) rfl (by decide) m_546 rfl hdg kk
theorem pf_X4_130 {a : Nat} {v : Int32} (C : Cx X p s m args meth c RX4 cc nL rt mn) (hW : Wx X h H) (hZ : va_S (aA (eB X)) s.heap H locs) (ha : hK h a = 4) (eh : h1 = wI h a 14 v) (hdg : decode cc pc = .ok (.putfield 130, 3)) (kk : ∀ (H1 : Heap) (locs1 : List Loc), Wx X h1 H1 → Km h h1 → va_S (aA (eB X)) s.heap H1 locs1 → W p l e R s m args below meth c H1 locs1 cells slots Q (F0 m (pc + 3) ls rest)) : W p l e R s m args below meth c H locs cells slots Q (F0 m pc ls (.int v :: .ref a :: rest)) :=
  y_puti (ty := .int) C hW hZ ha i_X4 tyX4 tyX4_ok nmX4 (by decide) rfl rfl (by decide) m_544 rfl (by decide +kernel) rfl rfl rfl eh hdg kk
theorem pf_X4_133 {a : Nat} {v : Int32} (C : Cx X p s m args meth c RX4 cc nL rt mn) (hW : Wx X h H) (hZ : va_S (aA (eB X)) s.heap H locs) (ha : hK h a = 4) (eh : h1 = wI h a 15 v) (hdg : decode cc pc = .ok (.putfield 133, 3)) (kk : ∀ (H1 : Heap) (locs1 : List Loc), Wx X h1 H1 → Km h h1 → va_S (aA (eB X)) s.heap H1 locs1 → W p l e R s m args below meth c H1 locs1 cells slots Q (F0 m (pc + 3) ls rest)) : W p l e R s m args below meth c H locs cells slots Q (F0 m pc ls (.int v :: .ref a :: rest)) :=
  y_puti (ty := .int) C hW hZ ha i_X4 tyX4 tyX4_ok nmX4 (by decide) rfl rfl (by decide) m_545 rfl (by decide +kernel) rfl rfl rfl eh hdg kk
end
theorem dX4_forget_0 : decode cX4_forget 0 = .ok (.aload_n 0, 1) := by decide +kernel
theorem dX4_forget_1 : decode cX4_forget 1 = .ok (.getfield 41, 3) := by decide +kernel
theorem dX4_forget_4 : decode cX4_forget 4 = .ok (.iload_n 1, 1) := by decide +kernel
theorem dX4_forget_5 : decode cX4_forget 5 = .ok (.if_icmp .ne 18, 3) := by decide +kernel
theorem dX4_forget_8 : decode cX4_forget 8 = .ok (.aload_n 0, 1) := by decide +kernel
theorem dX4_forget_9 : decode cX4_forget 9 = .ok (.iconst (-1), 1) := by decide +kernel
theorem dX4_forget_10 : decode cX4_forget 10 = .ok (.putfield 41, 3) := by decide +kernel
theorem dX4_forget_13 : decode cX4_forget 13 = .ok (.aload_n 0, 1) := by decide +kernel
theorem dX4_forget_14 : decode cX4_forget 14 = .ok (.iconst 0, 1) := by decide +kernel
theorem dX4_forget_15 : decode cX4_forget 15 = .ok (.putfield 130, 3) := by decide +kernel
theorem dX4_forget_18 : decode cX4_forget 18 = .ok (.aload_n 0, 1) := by decide +kernel
theorem dX4_forget_19 : decode cX4_forget 19 = .ok (.iconst 0, 1) := by decide +kernel
theorem dX4_forget_20 : decode cX4_forget 20 = .ok (.putfield 133, 3) := by decide +kernel
theorem dX4_forget_23 : decode cX4_forget 23 = .ok (.return_, 1) := by decide +kernel
set_option maxRecDepth 20000 in
theorem moX4_forget_23 {o : Hp} {h : Hp} (hE : sX4_forget_23 h  = some o) : Le h o := by
  exact le_some1 hE
set_option maxRecDepth 20000 in
theorem moX4_forget {o : Hp} {h : Hp} {x0 : Nat} {x1 : Int32} (hE : sX4_forget h x0 x1 = some o) : Le h o := by
  rcases br_e hE with ⟨_, hE⟩ | ⟨_, hE⟩
  · obtain ⟨h_2, eh_2, hE⟩ := nm_e2 hE
    refine (le_I eh_2).tr ?_
    obtain ⟨h_3, eh_3, hE⟩ := nm_e2 hE
    refine (le_I eh_3).tr ?_
    obtain ⟨h_4, eh_4, hE⟩ := nm_e2 hE
    refine (le_I eh_4).tr ?_
    exact moX4_forget_23 hE
  · exact moX4_forget_23 hE
set_option maxRecDepth 20000 in
theorem bX4_forget_23 {p : Program} {l : Launch} {e : Env} {s : State} {m : MethodId} {args : Array Value} {below : List Frame} {meth : Method} {c : Code} {X : Ec} {h0 : Hp} {o : Hp} (C : Cx X p s m args meth c RX4 cX4_forget 2 none "forget") {h : Hp} {H : Heap} {locs : List Loc} (hkm : Km h0 h) (hW : Wx X h H) (hZ : va_S (aA (eB X)) s.heap H locs) (ls : Array Slot) (hl : lv_has ls 2 []) (hE : sX4_forget_23 h  = some o) : W p l e (rm 0 0) s m args below meth c H locs 0 0 (MQ below (QV X h0 o) args s 0 0 (aA (eB X))) (F0 m 23 ls []) := by
  exact x_vret C rfl hW hZ hkm hE dX4_forget_23
set_option maxRecDepth 20000 in
theorem ct_X4_forget (l : Launch) (X : Ec) {h : Hp} {x0 : Nat} {x1 : Int32} {o : Hp} (k_x0 : hK h x0 = 4) (hE : sX4_forget h x0 x1 = some o) : MetV l yX4_forget cX4_forget 2 none 0 0 X [.ref x0, .int x1] h o := by
  refine x_met (by decide) (Nat.le_of_ble_eq_true rfl) ?_
  intro p e s m below meth c ls C hl hW hZ
  have hl : lv_has ls 2 [(0, .ref x0), (1, .int x1)] := hl
  have hkm : Km h h := Km.rf h
  refine lv_aload_n C.1 C.2.1 dX4_forget_0 rfl (lv_at hl 0 rfl) ?_
  refine gf_X4_41 C hW k_x0 dX4_forget_1 ?_
  refine lv_iload_n C.1 C.2.1 dX4_forget_4 rfl (lv_at hl 1 rfl) ?_
  refine lv_icmp_ne (tgt := 23) C.1 C.2.1 dX4_forget_5 (by decide) (fun c_1 => ?_) (fun c_1 => ?_)
  · have hE := br_n hE c_1
    exact bX4_forget_23 C hkm hW hZ _ (lv_sub hl [] rfl) hE
  · have hE := br_p hE c_1
    refine lv_aload_n C.1 C.2.1 dX4_forget_8 rfl (lv_at hl 0 rfl) ?_
    refine lv_iconst (v := (-1 : Int32)) C.1 C.2.1 dX4_forget_9 (by decide) ?_
    obtain ⟨h_2, eh_2, hE⟩ := nm_e2 hE
    refine pf_X4_41 C hW hZ k_x0 eh_2 dX4_forget_10 (fun _ _ hW km hZ => ?_)
    replace hkm := hkm.tr km
    replace k_x0 := km.at k_x0 (by decide)
    refine lv_aload_n C.1 C.2.1 dX4_forget_13 rfl (lv_at hl 0 rfl) ?_
    refine lv_iconst (v := (0 : Int32)) C.1 C.2.1 dX4_forget_14 (by decide) ?_
    obtain ⟨h_3, eh_3, hE⟩ := nm_e2 hE
    refine pf_X4_130 C hW hZ k_x0 eh_3 dX4_forget_15 (fun _ _ hW km hZ => ?_)
    replace hkm := hkm.tr km
    replace k_x0 := km.at k_x0 (by decide)
    refine lv_aload_n C.1 C.2.1 dX4_forget_18 rfl (lv_at hl 0 rfl) ?_
    refine lv_iconst (v := (0 : Int32)) C.1 C.2.1 dX4_forget_19 (by decide) ?_
    obtain ⟨h_4, eh_4, hE⟩ := nm_e2 hE
    refine pf_X4_133 C hW hZ k_x0 eh_4 dX4_forget_20 (fun _ _ hW km hZ => ?_)
    replace hkm := hkm.tr km
    replace k_x0 := km.at k_x0 (by decide)
    exact bX4_forget_23 C hkm hW hZ _ (lv_sub hl [] rfl) hE
set_option maxRecDepth 100000 in
theorem m_534 : Cond.fieldLink RX4 50 (TX4 5).1 (TX4 5).2.1 (TX4 5).2.2.1 ∈ W0 := w0_in (List.mem_append_right _ (List.mem_of_getElem? (i := 534) rfl)) rfl
set_option maxRecDepth 100000 in
theorem m_535 : Cond.fieldLink RX4 53 (TX4 6).1 (TX4 6).2.1 (TX4 6).2.2.1 ∈ W0 := w0_in (List.mem_append_right _ (List.mem_of_getElem? (i := 535) rfl)) rfl
set_option maxRecDepth 100000 in
theorem m_536 : Cond.fieldLink RX4 56 (TX4 7).1 (TX4 7).2.1 (TX4 7).2.2.1 ∈ W0 := w0_in (List.mem_append_right _ (List.mem_of_getElem? (i := 536) rfl)) rfl
set_option maxRecDepth 100000 in
theorem m_538 : Cond.fieldLink RX4 59 (TX4 9).1 (TX4 9).2.1 (TX4 9).2.2.1 ∈ W0 := w0_in (List.mem_append_right _ (List.mem_of_getElem? (i := 538) rfl)) rfl
set_option maxRecDepth 100000 in
theorem m_1354 : Cond.methodLink RX4 63 yJ7_fill_53178 ∈ W0 := w0_in (List.mem_append_right _ (List.mem_of_getElem? (i := 1354) rfl)) rfl
set_option maxRecDepth 100000 in
theorem m_1355 : Cond.methodLink RX4 69 yX3_copyFrom ∈ W0 := w0_in (List.mem_append_right _ (List.mem_of_getElem? (i := 1355) rfl)) rfl
section
variable {p : Program} {l : Launch} {e : Env} {R : Room} {s : State} {m : MethodId} {args : Array Value} {below : List Frame} {meth : Method} {c : Code} {H : Heap} {locs : List Loc} {cells slots : Nat} {Q : State → Prop}
variable {cc : ByteArray} {pc : Nat} {ls : Array Slot} {rest : List Value} {X : Ec} {h h1 : Hp} {nL : Nat} {rt : Option FieldType} {mn : String}
theorem pf_X4_56 {a : Nat} {v : Int32} (C : Cx X p s m args meth c RX4 cc nL rt mn) (hW : Wx X h H) (hZ : va_S (aA (eB X)) s.heap H locs) (ha : hK h a = 4) (eh : h1 = wI h a 7 v) (hdg : decode cc pc = .ok (.putfield 56, 3)) (kk : ∀ (H1 : Heap) (locs1 : List Loc), Wx X h1 H1 → Km h h1 → va_S (aA (eB X)) s.heap H1 locs1 → W p l e R s m args below meth c H1 locs1 cells slots Q (F0 m (pc + 3) ls rest)) : W p l e R s m args below meth c H locs cells slots Q (F0 m pc ls (.int v :: .ref a :: rest)) :=
  y_puti (ty := .int) C hW hZ ha i_X4 tyX4 tyX4_ok nmX4 (by decide) rfl rfl (by decide) m_536 rfl (by decide +kernel) rfl rfl rfl eh hdg kk
theorem pf_X4_59 {a : Nat} {v : Int32} (C : Cx X p s m args meth c RX4 cc nL rt mn) (hW : Wx X h H) (hZ : va_S (aA (eB X)) s.heap H locs) (ha : hK h a = 4) (hn : narrow .boolean (.int v) = .int v) (eh : h1 = wI h a 9 v) (hdg : decode cc pc = .ok (.putfield 59, 3)) (kk : ∀ (H1 : Heap) (locs1 : List Loc), Wx X h1 H1 → Km h h1 → va_S (aA (eB X)) s.heap H1 locs1 → W p l e R s m args below meth c H1 locs1 cells slots Q (F0 m (pc + 3) ls rest)) : W p l e R s m args below meth c H locs cells slots Q (F0 m pc ls (.int v :: .ref a :: rest)) :=
  y_puti (ty := .boolean) C hW hZ ha i_X4 tyX4 tyX4_ok nmX4 (by decide) rfl rfl (by decide) m_538 rfl (by decide +kernel) rfl hn (fitZ hn) eh hdg kk
theorem gf_X4_26 {a r : Nat} (C : Cx X p s m args meth c RX4 cc nL rt mn) (hW : Wx X h H) (ha : hK h a = 4) (hr : hR h a 4 = some r) (hdg : decode cc pc = .ok (.getfield 26, 3)) (kk : hK h r = 17 → W p l e R s m args below meth c H locs cells slots Q (F0 m (pc + 3) ls (.ref r :: rest))) : W p l e R s m args below meth c H locs cells slots Q (F0 m pc ls (.ref a :: rest)) :=
  y_getr C hW ha i_X4 (by decide) rfl (by decide) m_533 rfl rfl hr hdg kk
theorem pf_X4_50 {a : Nat} {v : Int32} (C : Cx X p s m args meth c RX4 cc nL rt mn) (hW : Wx X h H) (hZ : va_S (aA (eB X)) s.heap H locs) (ha : hK h a = 4) (eh : h1 = wI h a 5 v) (hdg : decode cc pc = .ok (.putfield 50, 3)) (kk : ∀ (H1 : Heap) (locs1 : List Loc), Wx X h1 H1 → Km h h1 → va_S (aA (eB X)) s.heap H1 locs1 → W p l e R s m args below meth c H1 locs1 cells slots Q (F0 m (pc + 3) ls rest)) : W p l e R s m args below meth c H locs cells slots Q (F0 m pc ls (.int v :: .ref a :: rest)) :=
  y_puti (ty := .int) C hW hZ ha i_X4 tyX4 tyX4_ok nmX4 (by decide) rfl rfl (by decide) m_534 rfl (by decide +kernel) rfl rfl rfl eh hdg kk
theorem pf_X4_53 {a : Nat} {v : Int32} (C : Cx X p s m args meth c RX4 cc nL rt mn) (hW : Wx X h H) (hZ : va_S (aA (eB X)) s.heap H locs) (ha : hK h a = 4) (eh : h1 = wI h a 6 v) (hdg : decode cc pc = .ok (.putfield 53, 3)) (kk : ∀ (H1 : Heap) (locs1 : List Loc), Wx X h1 H1 → Km h h1 → va_S (aA (eB X)) s.heap H1 locs1 → W p l e R s m args below meth c H1 locs1 cells slots Q (F0 m (pc + 3) ls rest)) : W p l e R s m args below meth c H locs cells slots Q (F0 m pc ls (.int v :: .ref a :: rest)) :=
  y_puti (ty := .int) C hW hZ ha i_X4 tyX4 tyX4_ok nmX4 (by decide) rfl rfl (by decide) m_535 rfl (by decide +kernel) rfl rfl rfl eh hdg kk
theorem gf_X4_50 {a : Nat} (C : Cx X p s m args meth c RX4 cc nL rt mn) (hW : Wx X h H) (ha : hK h a = 4) (hdg : decode cc pc = .ok (.getfield 50, 3)) (kk : W p l e R s m args below meth c H locs cells slots Q (F0 m (pc + 3) ls (.int (hI h a 5) :: rest))) : W p l e R s m args below meth c H locs cells slots Q (F0 m pc ls (.ref a :: rest)) :=
  y_geti C hW ha i_X4 (by decide) rfl (by decide) m_534 rfl hdg kk
end
theorem cw_X4_63 : cwd RX4 63 yJ7_fill_53178 cJ7_fill_53178 4 none true 2 := ⟨m_276, m_1354, m_9, m_275, by decide, by decide, by decide +kernel⟩
theorem cw_X4_69 : cwd RX4 69 yX3_copyFrom cX3_copyFrom 3 none false 1 := ⟨m_1232, m_1355, m_8, ⟨m_1230, m_1231⟩, by decide, by decide, by decide +kernel⟩
theorem dX4_set_0 : decode cX4_set 0 = .ok (.aload_n 0, 1) := by decide +kernel
theorem dX4_set_1 : decode cX4_set 1 = .ok (.iload_n 2, 1) := by decide +kernel
theorem dX4_set_2 : decode cX4_set 2 = .ok (.putfield 50, 3) := by decide +kernel
theorem dX4_set_5 : decode cX4_set 5 = .ok (.aload_n 0, 1) := by decide +kernel
theorem dX4_set_6 : decode cX4_set 6 = .ok (.iload_n 3, 1) := by decide +kernel
theorem dX4_set_7 : decode cX4_set 7 = .ok (.putfield 53, 3) := by decide +kernel
theorem dX4_set_10 : decode cX4_set 10 = .ok (.aload_n 0, 1) := by decide +kernel
theorem dX4_set_11 : decode cX4_set 11 = .ok (.aload_n 0, 1) := by decide +kernel
theorem dX4_set_12 : decode cX4_set 12 = .ok (.getfield 50, 3) := by decide +kernel
theorem dX4_set_15 : decode cX4_set 15 = .ok (.ifCond .ne 12, 3) := by decide +kernel
theorem dX4_set_18 : decode cX4_set 18 = .ok (.iconst 2, 1) := by decide +kernel
theorem dX4_set_19 : decode cX4_set 19 = .ok (.iload 4, 2) := by decide +kernel
theorem dX4_set_21 : decode cX4_set 21 = .ok (.imul, 1) := by decide +kernel
theorem dX4_set_22 : decode cX4_set 22 = .ok (.iconst 1, 1) := by decide +kernel
theorem dX4_set_23 : decode cX4_set 23 = .ok (.isub, 1) := by decide +kernel
theorem dX4_set_24 : decode cX4_set 24 = .ok (.goto 20, 3) := by decide +kernel
theorem dX4_set_27 : decode cX4_set 27 = .ok (.aload_n 0, 1) := by decide +kernel
theorem dX4_set_28 : decode cX4_set 28 = .ok (.getfield 50, 3) := by decide +kernel
theorem dX4_set_31 : decode cX4_set 31 = .ok (.iconst 3, 1) := by decide +kernel
theorem dX4_set_32 : decode cX4_set 32 = .ok (.if_icmp .ne 8, 3) := by decide +kernel
theorem dX4_set_35 : decode cX4_set 35 = .ok (.iload 4, 2) := by decide +kernel
theorem dX4_set_37 : decode cX4_set 37 = .ok (.goto 7, 3) := by decide +kernel
theorem dX4_set_40 : decode cX4_set 40 = .ok (.iconst 2, 1) := by decide +kernel
theorem dX4_set_41 : decode cX4_set 41 = .ok (.iload 4, 2) := by decide +kernel
theorem dX4_set_43 : decode cX4_set 43 = .ok (.imul, 1) := by decide +kernel
theorem dX4_set_44 : decode cX4_set 44 = .ok (.putfield 56, 3) := by decide +kernel
theorem dX4_set_47 : decode cX4_set 47 = .ok (.aload_n 0, 1) := by decide +kernel
theorem dX4_set_48 : decode cX4_set 48 = .ok (.iconst 0, 1) := by decide +kernel
theorem dX4_set_49 : decode cX4_set 49 = .ok (.putfield 59, 3) := by decide +kernel
theorem dX4_set_52 : decode cX4_set 52 = .ok (.aload_n 0, 1) := by decide +kernel
theorem dX4_set_53 : decode cX4_set 53 = .ok (.getfield 26, 3) := by decide +kernel
theorem dX4_set_56 : decode cX4_set 56 = .ok (.iconst 0, 1) := by decide +kernel
theorem dX4_set_57 : decode cX4_set 57 = .ok (.invokestatic 63, 3) := by decide +kernel
theorem dX4_set_60 : decode cX4_set 60 = .ok (.aload_n 0, 1) := by decide +kernel
theorem dX4_set_61 : decode cX4_set 61 = .ok (.getfield 13, 3) := by decide +kernel
theorem dX4_set_64 : decode cX4_set 64 = .ok (.iconst 0, 1) := by decide +kernel
theorem dX4_set_65 : decode cX4_set 65 = .ok (.aaload, 1) := by decide +kernel
theorem dX4_set_66 : decode cX4_set 66 = .ok (.aload_n 1, 1) := by decide +kernel
theorem dX4_set_67 : decode cX4_set 67 = .ok (.invokevirtual 69, 3) := by decide +kernel
theorem dX4_set_70 : decode cX4_set 70 = .ok (.return_, 1) := by decide +kernel
set_option maxRecDepth 20000 in
theorem moX4_set_44 {o : Hp} {F : Nat} {h : Hp} {x0 : Nat} {x1 : Nat} {t0 : Int32} {t1 : Nat} (hE : sX4_set_44 F h x0 x1 t0 t1 = some o) : Le h o := by
  obtain ⟨h_1, eh_1, hE⟩ := nm_e2 hE
  refine (le_I eh_1).tr ?_
  obtain ⟨h_2, eh_2, hE⟩ := nm_e2 hE
  refine (le_I eh_2).tr ?_
  obtain ⟨r_3, er_3, hE⟩ := cl_e hE
  obtain ⟨o_4, eo_4, hE⟩ := cl_e hE
  refine (moJ7_fill_53178 eo_4).tr ?_
  obtain ⟨r_5, er_5, hE⟩ := cl_e hE
  obtain ⟨g_6, hE⟩ := gd_e hE
  obtain ⟨r_7, er_7, hE⟩ := cl_e hE
  obtain ⟨o_8, eo_8, hE⟩ := cl_e hE
  refine (moX3_copyFrom eo_8).tr ?_
  exact le_some1 hE
set_option maxRecDepth 20000 in
theorem moX4_set {o : Hp} {F : Nat} {h : Hp} {x0 : Nat} {x1 : Nat} {x2 : Int32} {x3 : Int32} {x4 : Int32} (hE : sX4_set F h x0 x1 x2 x3 x4 = some o) : Le h o := by
  obtain ⟨h_1, eh_1, hE⟩ := nm_e2 hE
  refine (le_I eh_1).tr ?_
  obtain ⟨h_2, eh_2, hE⟩ := nm_e2 hE
  refine (le_I eh_2).tr ?_
  rcases br_e hE with ⟨_, hE⟩ | ⟨_, hE⟩
  · exact moX4_set_44 hE
  · rcases br_e hE with ⟨_, hE⟩ | ⟨_, hE⟩
    · exact moX4_set_44 hE
    · exact moX4_set_44 hE
set_option maxRecDepth 20000 in
theorem bX4_set_44 {p : Program} {l : Launch} {e : Env} {s : State} {m : MethodId} {args : Array Value} {below : List Frame} {meth : Method} {c : Code} {X : Ec} {h0 : Hp} {o : Hp} {F : Nat} (C : Cx X p s m args meth c RX4 cX4_set 5 none "set") {h : Hp} {x0 : Nat} {x1 : Nat} {t0 : Int32} {t1 : Nat} {H : Heap} {locs : List Loc} (k_x0 : hK h x0 = 4) (k_x1 : hK h x1 = 3) (k_t1 : hK h t1 = 4) (hkm : Km h0 h) (hW : Wx X h H) (hZ : va_S (aA (eB X)) s.heap H locs) (ls : Array Slot) (hl : lv_has ls 5 [(0, .ref x0), (1, .ref x1)]) (hE : sX4_set_44 F h x0 x1 t0 t1 = some o) : W p l e (rm 2 86) s m args below meth c H locs 0 0 (MQ below (QV X h0 o) args s 0 0 (aA (eB X))) (F0 m 44 ls [.int t0, .ref t1]) := by
  obtain ⟨h_1, eh_1, hE⟩ := nm_e2 hE
  refine pf_X4_56 C hW hZ k_t1 eh_1 dX4_set_44 (fun _ _ hW km hZ => ?_)
  replace hkm := hkm.tr km
  replace k_x0 := km.at k_x0 (by decide)
  replace k_x1 := km.at k_x1 (by decide)
  refine lv_aload_n C.1 C.2.1 dX4_set_47 rfl (lv_at hl 0 rfl) ?_
  refine lv_iconst (v := (0 : Int32)) C.1 C.2.1 dX4_set_48 (by decide) ?_
  obtain ⟨h_2, eh_2, hE⟩ := nm_e2 hE
  refine pf_X4_59 C hW hZ k_x0 (by decide) eh_2 dX4_set_49 (fun _ _ hW km hZ => ?_)
  replace hkm := hkm.tr km
  replace k_x0 := km.at k_x0 (by decide)
  replace k_x1 := km.at k_x1 (by decide)
  refine lv_aload_n C.1 C.2.1 dX4_set_52 rfl (lv_at hl 0 rfl) ?_
  obtain ⟨r_3, er_3, hE⟩ := cl_e hE
  refine gf_X4_26 C hW k_x0 er_3 dX4_set_53 (fun k_r_3 => ?_)
  refine lv_iconst (v := (0 : Int32)) C.1 C.2.1 dX4_set_56 (by decide) ?_
  obtain ⟨o_4, eo_4, hE⟩ := cl_e hE
  refine x_kV (o := o_4) (z_runS (As := [.ref r_3, .int (0 : Int32)]) (rest := []) C (ct_J7_fill_53178 l X F k_r_3 eo_4) cw_X4_63 hW hZ rfl hl.1 (Nat.le_of_ble_eq_true rfl) rfl dX4_set_57 ⟨Nat.le_of_ble_eq_true rfl, Nat.le_of_ble_eq_true rfl⟩ ⟨Nat.le_refl _, Nat.le_refl _⟩) hZ (fun _ _ hW km hZ => ?_)
  replace hkm := hkm.tr km
  replace k_x0 := km.at k_x0 (by decide)
  replace k_x1 := km.at k_x1 (by decide)
  refine lv_aload_n C.1 C.2.1 dX4_set_60 rfl (lv_at hl 0 rfl) ?_
  obtain ⟨r_5, er_5, hE⟩ := cl_e hE
  refine gf_X4_13 C hW k_x0 er_5 dX4_set_61 (fun k_r_5 => ?_)
  refine lv_iconst (v := (0 : Int32)) C.1 C.2.1 dX4_set_64 (by decide) ?_
  obtain ⟨g_6, hE⟩ := gd_e hE
  obtain ⟨r_7, er_7, hE⟩ := cl_e hE
  refine y_aald (t0 := 4) C hW k_r_5 (by decide) (by decide) rfl rfl rfl (fun _ => rfl) g_6 er_7 dX4_set_65 (fun k_r_7 => ?_)
  refine lv_aload_n C.1 C.2.1 dX4_set_66 rfl (lv_at hl 1 rfl) ?_
  obtain ⟨o_8, eo_8, hE⟩ := cl_e hE
  refine x_kV (o := o_8) (z_runV (As := [.ref x1]) (rest := []) C (ct_X3_copyFrom l X F k_r_7 k_x1 eo_8) cw_X4_69 hW hZ k_r_7 (by decide) rfl rfl rfl hl.1 (Nat.le_of_ble_eq_true rfl) rfl dX4_set_67 ⟨Nat.le_of_ble_eq_true rfl, Nat.le_of_ble_eq_true rfl⟩ ⟨Nat.le_refl _, Nat.le_refl _⟩) hZ (fun _ _ hW km hZ => ?_)
  replace hkm := hkm.tr km
  replace k_x0 := km.at k_x0 (by decide)
  replace k_x1 := km.at k_x1 (by decide)
  exact x_vret C rfl hW hZ hkm hE dX4_set_70
set_option maxRecDepth 20000 in
theorem ct_X4_set (l : Launch) (X : Ec) (F : Nat) {h : Hp} {x0 : Nat} {x1 : Nat} {x2 : Int32} {x3 : Int32} {x4 : Int32} {o : Hp} (k_x0 : hK h x0 = 4) (k_x1 : hK h x1 = 3) (hE : sX4_set F h x0 x1 x2 x3 x4 = some o) : MetV l yX4_set cX4_set 5 none 2 86 X [.ref x0, .ref x1, .int x2, .int x3, .int x4] h o := by
  refine x_met (by decide) (Nat.le_of_ble_eq_true rfl) ?_
  intro p e s m below meth c ls C hl hW hZ
  have hl : lv_has ls 5 [(0, .ref x0), (1, .ref x1), (2, .int x2), (3, .int x3), (4, .int x4)] := hl
  have hkm : Km h h := Km.rf h
  refine lv_aload_n C.1 C.2.1 dX4_set_0 rfl (lv_at hl 0 rfl) ?_
  refine lv_iload_n C.1 C.2.1 dX4_set_1 rfl (lv_at hl 2 rfl) ?_
  obtain ⟨h_1, eh_1, hE⟩ := nm_e2 hE
  refine pf_X4_50 C hW hZ k_x0 eh_1 dX4_set_2 (fun _ _ hW km hZ => ?_)
  replace hkm := hkm.tr km
  replace k_x0 := km.at k_x0 (by decide)
  replace k_x1 := km.at k_x1 (by decide)
  refine lv_aload_n C.1 C.2.1 dX4_set_5 rfl (lv_at hl 0 rfl) ?_
  refine lv_iload_n C.1 C.2.1 dX4_set_6 rfl (lv_at hl 3 rfl) ?_
  obtain ⟨h_2, eh_2, hE⟩ := nm_e2 hE
  refine pf_X4_53 C hW hZ k_x0 eh_2 dX4_set_7 (fun _ _ hW km hZ => ?_)
  replace hkm := hkm.tr km
  replace k_x0 := km.at k_x0 (by decide)
  replace k_x1 := km.at k_x1 (by decide)
  refine lv_aload_n C.1 C.2.1 dX4_set_10 rfl (lv_at hl 0 rfl) ?_
  refine lv_aload_n C.1 C.2.1 dX4_set_11 rfl (lv_at hl 0 rfl) ?_
  refine gf_X4_50 C hW k_x0 dX4_set_12 ?_
  refine lv_if_ne (tgt := 27) C.1 C.2.1 dX4_set_15 (by decide) (fun c_3 => ?_) (fun c_3 => ?_)
  · have hE := br_n hE c_3
    refine lv_aload_n C.1 C.2.1 dX4_set_27 rfl (lv_at hl 0 rfl) ?_
    refine gf_X4_50 C hW k_x0 dX4_set_28 ?_
    refine lv_iconst (v := (3 : Int32)) C.1 C.2.1 dX4_set_31 (by decide) ?_
    refine lv_icmp_ne (tgt := 40) C.1 C.2.1 dX4_set_32 (by decide) (fun c_4 => ?_) (fun c_4 => ?_)
    · have hE := br_n hE c_4
      refine lv_iconst (v := (2 : Int32)) C.1 C.2.1 dX4_set_40 (by decide) ?_
      refine lv_iload C.1 C.2.1 dX4_set_41 (lv_at hl 4 rfl) ?_
      refine lv_imul C.1 C.2.1 dX4_set_43 ?_
      exact bX4_set_44 C k_x0 k_x1 k_x0 hkm hW hZ _ (lv_sub hl [0, 1] rfl) hE
    · have hE := br_p hE c_4
      refine lv_iload C.1 C.2.1 dX4_set_35 (lv_at hl 4 rfl) ?_
      refine lv_goto (tgt := 44) C.1 C.2.1 dX4_set_37 (by decide) ?_
      exact bX4_set_44 C k_x0 k_x1 k_x0 hkm hW hZ _ (lv_sub hl [0, 1] rfl) hE
  · have hE := br_p hE c_3
    refine lv_iconst (v := (2 : Int32)) C.1 C.2.1 dX4_set_18 (by decide) ?_
    refine lv_iload C.1 C.2.1 dX4_set_19 (lv_at hl 4 rfl) ?_
    refine lv_imul C.1 C.2.1 dX4_set_21 ?_
    refine lv_iconst (v := (1 : Int32)) C.1 C.2.1 dX4_set_22 (by decide) ?_
    refine lv_isub C.1 C.2.1 dX4_set_23 ?_
    refine lv_goto (tgt := 44) C.1 C.2.1 dX4_set_24 (by decide) ?_
    exact bX4_set_44 C k_x0 k_x1 k_x0 hkm hW hZ _ (lv_sub hl [0, 1] rfl) hE
set_option maxRecDepth 100000 in
theorem m_14 : Cond.initialized RX4 ∈ W0 := w0_in (List.mem_append_right _ (List.mem_of_getElem? (i := 14) rfl)) rfl
set_option maxRecDepth 100000 in
theorem m_1350 : Cond.methodLink RX4 73 yX4_set ∈ W0 := w0_in (List.mem_append_right _ (List.mem_of_getElem? (i := 1350) rfl)) rfl
set_option maxRecDepth 100000 in
theorem m_1351 : Cond.instanceMethod yX4_set ∈ W0 := w0_in (List.mem_append_right _ (List.mem_of_getElem? (i := 1351) rfl)) rfl
set_option maxRecDepth 100000 in
theorem m_1352 : Cond.selects RX4 yX4_set yX4_set ∈ W0 := w0_in (List.mem_append_right _ (List.mem_of_getElem? (i := 1352) rfl)) rfl
set_option maxRecDepth 100000 in
theorem m_1353 : Cond.code yX4_set cX4_set 5 none ∈ W0 := w0_in (List.mem_append_right _ (List.mem_of_getElem? (i := 1353) rfl)) rfl
theorem cw_X4_73 : cwd RX4 73 yX4_set cX4_set 5 none false 4 := ⟨m_1353, m_1350, m_14, ⟨m_1351, m_1352⟩, by decide, by decide, by decide +kernel⟩
theorem dX4_setRows_0 : decode cX4_setRows 0 = .ok (.aload_n 0, 1) := by decide +kernel
theorem dX4_setRows_1 : decode cX4_setRows 1 = .ok (.aload_n 1, 1) := by decide +kernel
theorem dX4_setRows_2 : decode cX4_setRows 2 = .ok (.iconst 4, 1) := by decide +kernel
theorem dX4_setRows_3 : decode cX4_setRows 3 = .ok (.iconst 0, 1) := by decide +kernel
theorem dX4_setRows_4 : decode cX4_setRows 4 = .ok (.iconst 0, 1) := by decide +kernel
theorem dX4_setRows_5 : decode cX4_setRows 5 = .ok (.invokevirtual 73, 3) := by decide +kernel
theorem dX4_setRows_8 : decode cX4_setRows 8 = .ok (.aload_n 0, 1) := by decide +kernel
theorem dX4_setRows_9 : decode cX4_setRows 9 = .ok (.iload_n 2, 1) := by decide +kernel
theorem dX4_setRows_10 : decode cX4_setRows 10 = .ok (.putfield 56, 3) := by decide +kernel
theorem dX4_setRows_13 : decode cX4_setRows 13 = .ok (.return_, 1) := by decide +kernel
set_option maxRecDepth 20000 in
theorem moX4_setRows {o : Hp} {F : Nat} {h : Hp} {x0 : Nat} {x1 : Nat} {x2 : Int32} (hE : sX4_setRows F h x0 x1 x2 = some o) : Le h o := by
  obtain ⟨o_1, eo_1, hE⟩ := cl_e hE
  refine (moX4_set eo_1).tr ?_
  obtain ⟨h_2, eh_2, hE⟩ := nm_e2 hE
  refine (le_I eh_2).tr ?_
  exact le_some1 hE
set_option maxRecDepth 20000 in
theorem ct_X4_setRows (l : Launch) (X : Ec) (F : Nat) {h : Hp} {x0 : Nat} {x1 : Nat} {x2 : Int32} {o : Hp} (k_x0 : hK h x0 = 4) (k_x1 : hK h x1 = 3) (hE : sX4_setRows F h x0 x1 x2 = some o) : MetV l yX4_setRows cX4_setRows 3 none 3 110 X [.ref x0, .ref x1, .int x2] h o := by
  refine x_met (by decide) (Nat.le_of_ble_eq_true rfl) ?_
  intro p e s m below meth c ls C hl hW hZ
  have hl : lv_has ls 3 [(0, .ref x0), (1, .ref x1), (2, .int x2)] := hl
  have hkm : Km h h := Km.rf h
  refine lv_aload_n C.1 C.2.1 dX4_setRows_0 rfl (lv_at hl 0 rfl) ?_
  refine lv_aload_n C.1 C.2.1 dX4_setRows_1 rfl (lv_at hl 1 rfl) ?_
  refine lv_iconst (v := (4 : Int32)) C.1 C.2.1 dX4_setRows_2 (by decide) ?_
  refine lv_iconst (v := (0 : Int32)) C.1 C.2.1 dX4_setRows_3 (by decide) ?_
  refine lv_iconst (v := (0 : Int32)) C.1 C.2.1 dX4_setRows_4 (by decide) ?_
  obtain ⟨o_1, eo_1, hE⟩ := cl_e hE
  refine x_kV (o := o_1) (z_runV (As := [.ref x1, .int (4 : Int32), .int (0 : Int32), .int (0 : Int32)]) (rest := []) C (ct_X4_set l X F k_x0 k_x1 eo_1) cw_X4_73 hW hZ k_x0 (by decide) rfl rfl rfl hl.1 (Nat.le_of_ble_eq_true rfl) rfl dX4_setRows_5 ⟨Nat.le_of_ble_eq_true rfl, Nat.le_of_ble_eq_true rfl⟩ ⟨Nat.le_refl _, Nat.le_refl _⟩) hZ (fun _ _ hW km hZ => ?_)
  replace hkm := hkm.tr km
  replace k_x0 := km.at k_x0 (by decide)
  replace k_x1 := km.at k_x1 (by decide)
  refine lv_aload_n C.1 C.2.1 dX4_setRows_8 rfl (lv_at hl 0 rfl) ?_
  refine lv_iload_n C.1 C.2.1 dX4_setRows_9 rfl (lv_at hl 2 rfl) ?_
  obtain ⟨h_2, eh_2, hE⟩ := nm_e2 hE
  refine pf_X4_56 C hW hZ k_x0 eh_2 dX4_setRows_10 (fun _ _ hW km hZ => ?_)
  replace hkm := hkm.tr km
  replace k_x0 := km.at k_x0 (by decide)
  replace k_x1 := km.at k_x1 (by decide)
  exact x_vret C rfl hW hZ hkm hE dX4_setRows_13
set_option maxRecDepth 100000 in
theorem m_300 : Cond.fieldLink RX4 116 (TX3 5).1 (TX3 5).2.1 (TX3 5).2.2.1 ∈ W0 := w0_in (List.mem_append_right _ (List.mem_of_getElem? (i := 300) rfl)) rfl
set_option maxRecDepth 100000 in
theorem m_1380 : Cond.methodLink RX4 126 yX5_winnerOf ∈ W0 := w0_in (List.mem_append_right _ (List.mem_of_getElem? (i := 1380) rfl)) rfl
section
variable {p : Program} {l : Launch} {e : Env} {R : Room} {s : State} {m : MethodId} {args : Array Value} {below : List Frame} {meth : Method} {c : Code} {H : Heap} {locs : List Loc} {cells slots : Nat} {Q : State → Prop}
variable {cc : ByteArray} {pc : Nat} {ls : Array Slot} {rest : List Value} {X : Ec} {h h1 : Hp} {nL : Nat} {rt : Option FieldType} {mn : String}
theorem gf_X4_53 {a : Nat} (C : Cx X p s m args meth c RX4 cc nL rt mn) (hW : Wx X h H) (ha : hK h a = 4) (hdg : decode cc pc = .ok (.getfield 53, 3)) (kk : W p l e R s m args below meth c H locs cells slots Q (F0 m (pc + 3) ls (.int (hI h a 6) :: rest))) : W p l e R s m args below meth c H locs cells slots Q (F0 m pc ls (.ref a :: rest)) :=
  y_geti C hW ha i_X4 (by decide) rfl (by decide) m_535 rfl hdg kk
theorem gf_X4_22 {a r : Nat} (C : Cx X p s m args meth c RX4 cc nL rt mn) (hW : Wx X h H) (ha : hK h a = 4) (hr : hR h a 3 = some r) (hdg : decode cc pc = .ok (.getfield 22, 3)) (kk : hK h r = 17 → W p l e R s m args below meth c H locs cells slots Q (F0 m (pc + 3) ls (.ref r :: rest))) : W p l e R s m args below meth c H locs cells slots Q (F0 m pc ls (.ref a :: rest)) :=
  y_getr C hW ha i_X4 (by decide) rfl (by decide) m_532 rfl rfl hr hdg kk
theorem gf_X4_45 {a r : Nat} (C : Cx X p s m args meth c RX4 cc nL rt mn) (hW : Wx X h H) (ha : hK h a = 4) (hr : hR h a 0 = some r) (hdg : decode cc pc = .ok (.getfield 45, 3)) (kk : hK h r = 5 → W p l e R s m args below meth c H locs cells slots Q (F0 m (pc + 3) ls (.ref r :: rest))) : W p l e R s m args below meth c H locs cells slots Q (F0 m pc ls (.ref a :: rest)) :=
  y_getr C hW ha i_X4 (by decide) rfl (by decide) m_529 rfl rfl hr hdg kk
theorem gf_X4_116 {a : Nat} (C : Cx X p s m args meth c RX4 cc nL rt mn) (hW : Wx X h H) (ha : hK h a = 3) (hdg : decode cc pc = .ok (.getfield 116, 3)) (kk : W p l e R s m args below meth c H locs cells slots Q (F0 m (pc + 3) ls (.int (hI h a 5) :: rest))) : W p l e R s m args below meth c H locs cells slots Q (F0 m pc ls (.ref a :: rest)) :=
  y_geti C hW ha i_X3 (by decide) rfl (by decide) m_300 rfl hdg kk
end
theorem cw_X4_126 : cwd RX4 126 yX5_winnerOf cX5_winnerOf 6 (some .int) false 2 := ⟨m_1383, m_1380, m_7, ⟨m_1381, m_1382⟩, by decide, by decide, by decide +kernel⟩
theorem dX4_isGoal_0 : decode cX4_isGoal 0 = .ok (.aload_n 0, 1) := by decide +kernel
theorem dX4_isGoal_1 : decode cX4_isGoal 1 = .ok (.getfield 53, 3) := by decide +kernel
theorem dX4_isGoal_4 : decode cX4_isGoal 4 = .ok (.lookupswitch 61 #[(0, 28), (1, 44)], 28) := by decide +kernel
theorem dX4_isGoal_32 : decode cX4_isGoal 32 = .ok (.aload_n 0, 1) := by decide +kernel
theorem dX4_isGoal_33 : decode cX4_isGoal 33 = .ok (.getfield 22, 3) := by decide +kernel
theorem dX4_isGoal_36 : decode cX4_isGoal 36 = .ok (.iload_n 1, 1) := by decide +kernel
theorem dX4_isGoal_37 : decode cX4_isGoal 37 = .ok (.iaload, 1) := by decide +kernel
theorem dX4_isGoal_38 : decode cX4_isGoal 38 = .ok (.iconst 5, 1) := by decide +kernel
theorem dX4_isGoal_39 : decode cX4_isGoal 39 = .ok (.if_icmp .ne 7, 3) := by decide +kernel
theorem dX4_isGoal_42 : decode cX4_isGoal 42 = .ok (.iconst 1, 1) := by decide +kernel
theorem dX4_isGoal_43 : decode cX4_isGoal 43 = .ok (.goto 4, 3) := by decide +kernel
theorem dX4_isGoal_46 : decode cX4_isGoal 46 = .ok (.iconst 0, 1) := by decide +kernel
theorem dX4_isGoal_47 : decode cX4_isGoal 47 = .ok (.ireturn, 1) := by decide +kernel
theorem dX4_isGoal_48 : decode cX4_isGoal 48 = .ok (.aload_n 0, 1) := by decide +kernel
theorem dX4_isGoal_49 : decode cX4_isGoal 49 = .ok (.getfield 22, 3) := by decide +kernel
theorem dX4_isGoal_52 : decode cX4_isGoal 52 = .ok (.iload_n 1, 1) := by decide +kernel
theorem dX4_isGoal_53 : decode cX4_isGoal 53 = .ok (.iaload, 1) := by decide +kernel
theorem dX4_isGoal_54 : decode cX4_isGoal 54 = .ok (.bipush 6, 2) := by decide +kernel
theorem dX4_isGoal_56 : decode cX4_isGoal 56 = .ok (.if_icmp .ne 7, 3) := by decide +kernel
theorem dX4_isGoal_59 : decode cX4_isGoal 59 = .ok (.iconst 1, 1) := by decide +kernel
theorem dX4_isGoal_60 : decode cX4_isGoal 60 = .ok (.goto 4, 3) := by decide +kernel
theorem dX4_isGoal_63 : decode cX4_isGoal 63 = .ok (.iconst 0, 1) := by decide +kernel
theorem dX4_isGoal_64 : decode cX4_isGoal 64 = .ok (.ireturn, 1) := by decide +kernel
theorem dX4_isGoal_65 : decode cX4_isGoal 65 = .ok (.aload_n 0, 1) := by decide +kernel
theorem dX4_isGoal_66 : decode cX4_isGoal 66 = .ok (.getfield 45, 3) := by decide +kernel
theorem dX4_isGoal_69 : decode cX4_isGoal 69 = .ok (.aload_n 0, 1) := by decide +kernel
theorem dX4_isGoal_70 : decode cX4_isGoal 70 = .ok (.getfield 13, 3) := by decide +kernel
theorem dX4_isGoal_73 : decode cX4_isGoal 73 = .ok (.iload_n 1, 1) := by decide +kernel
theorem dX4_isGoal_74 : decode cX4_isGoal 74 = .ok (.aaload, 1) := by decide +kernel
theorem dX4_isGoal_75 : decode cX4_isGoal 75 = .ok (.aload_n 0, 1) := by decide +kernel
theorem dX4_isGoal_76 : decode cX4_isGoal 76 = .ok (.getfield 22, 3) := by decide +kernel
theorem dX4_isGoal_79 : decode cX4_isGoal 79 = .ok (.iload_n 1, 1) := by decide +kernel
theorem dX4_isGoal_80 : decode cX4_isGoal 80 = .ok (.iaload, 1) := by decide +kernel
theorem dX4_isGoal_81 : decode cX4_isGoal 81 = .ok (.invokevirtual 126, 3) := by decide +kernel
theorem dX4_isGoal_84 : decode cX4_isGoal 84 = .ok (.iconst 1, 1) := by decide +kernel
theorem dX4_isGoal_85 : decode cX4_isGoal 85 = .ok (.aload_n 0, 1) := by decide +kernel
theorem dX4_isGoal_86 : decode cX4_isGoal 86 = .ok (.getfield 13, 3) := by decide +kernel
theorem dX4_isGoal_89 : decode cX4_isGoal 89 = .ok (.iload_n 1, 1) := by decide +kernel
theorem dX4_isGoal_90 : decode cX4_isGoal 90 = .ok (.aaload, 1) := by decide +kernel
theorem dX4_isGoal_91 : decode cX4_isGoal 91 = .ok (.getfield 116, 3) := by decide +kernel
theorem dX4_isGoal_94 : decode cX4_isGoal 94 = .ok (.isub, 1) := by decide +kernel
theorem dX4_isGoal_95 : decode cX4_isGoal 95 = .ok (.if_icmp .ne 7, 3) := by decide +kernel
theorem dX4_isGoal_98 : decode cX4_isGoal 98 = .ok (.iconst 1, 1) := by decide +kernel
theorem dX4_isGoal_99 : decode cX4_isGoal 99 = .ok (.goto 4, 3) := by decide +kernel
theorem dX4_isGoal_102 : decode cX4_isGoal 102 = .ok (.iconst 0, 1) := by decide +kernel
theorem dX4_isGoal_103 : decode cX4_isGoal 103 = .ok (.ireturn, 1) := by decide +kernel
set_option maxRecDepth 20000 in
theorem moX4_isGoal_103 {o : Int32 × Hp} {h : Hp} {t0 : Int32} (hE : sX4_isGoal_103 h  t0 = some o) : Le h o.2 := by
  obtain ⟨g_1, hE⟩ := gd_e hE
  exact le_some2 hE
set_option maxRecDepth 20000 in
theorem moX4_isGoal_47 {o : Int32 × Hp} {h : Hp} {t0 : Int32} (hE : sX4_isGoal_47 h  t0 = some o) : Le h o.2 := by
  obtain ⟨g_1, hE⟩ := gd_e hE
  exact le_some2 hE
set_option maxRecDepth 20000 in
theorem moX4_isGoal_64 {o : Int32 × Hp} {h : Hp} {t0 : Int32} (hE : sX4_isGoal_64 h  t0 = some o) : Le h o.2 := by
  obtain ⟨g_1, hE⟩ := gd_e hE
  exact le_some2 hE
set_option maxRecDepth 20000 in
theorem moX4_isGoal {o : Int32 × Hp} {h : Hp} {x0 : Nat} {x1 : Int32} (hE : sX4_isGoal h x0 x1 = some o) : Le h o.2 := by
  rcases br_e hE with ⟨_, hE⟩ | ⟨_, hE⟩
  · obtain ⟨r_1, er_1, hE⟩ := cl_e hE
    obtain ⟨g_2, hE⟩ := gd_e hE
    rcases br_e hE with ⟨_, hE⟩ | ⟨_, hE⟩
    · exact moX4_isGoal_47 hE
    · exact moX4_isGoal_47 hE
  rcases br_e hE with ⟨_, hE⟩ | ⟨_, hE⟩
  · obtain ⟨r_5, er_5, hE⟩ := cl_e hE
    obtain ⟨g_6, hE⟩ := gd_e hE
    rcases br_e hE with ⟨_, hE⟩ | ⟨_, hE⟩
    · exact moX4_isGoal_64 hE
    · exact moX4_isGoal_64 hE
  obtain ⟨r_9, er_9, hE⟩ := cl_e hE
  obtain ⟨r_10, er_10, hE⟩ := cl_e hE
  obtain ⟨g_11, hE⟩ := gd_e hE
  obtain ⟨r_12, er_12, hE⟩ := cl_e hE
  obtain ⟨r_13, er_13, hE⟩ := cl_e hE
  obtain ⟨g_14, hE⟩ := gd_e hE
  obtain ⟨o_15, eo_15, hE⟩ := cl_e hE
  refine (moX5_winnerOf eo_15).tr ?_
  obtain ⟨r_16, er_16, hE⟩ := cl_e hE
  obtain ⟨g_17, hE⟩ := gd_e hE
  obtain ⟨r_18, er_18, hE⟩ := cl_e hE
  rcases br_e hE with ⟨_, hE⟩ | ⟨_, hE⟩
  · exact moX4_isGoal_103 hE
  · exact moX4_isGoal_103 hE
set_option maxRecDepth 20000 in
theorem bX4_isGoal_103 {p : Program} {l : Launch} {e : Env} {s : State} {m : MethodId} {args : Array Value} {below : List Frame} {meth : Method} {c : Code} {X : Ec} {h0 : Hp} {o : Int32 × Hp} (C : Cx X p s m args meth c RX4 cX4_isGoal 2 (some .boolean) "isGoal") {h : Hp} {t0 : Int32} {H : Heap} {locs : List Loc} (hkm : Km h0 h) (hW : Wx X h H) (hZ : va_S (aA (eB X)) s.heap H locs) (ls : Array Slot) (hl : lv_has ls 2 []) (hE : sX4_isGoal_103 h  t0 = some o) : W p l e (rm 2 47) s m args below meth c H locs 0 0 (MQ below (QI X h0 o.1 o.2) args s 0 0 (aA (eB X))) (F0 m 103 ls [.int t0]) := by
  obtain ⟨g_1, hE⟩ := gd_e hE
  exact x_iret C rfl (narB g_1) hW hZ hkm hE dX4_isGoal_103
set_option maxRecDepth 20000 in
theorem bX4_isGoal_47 {p : Program} {l : Launch} {e : Env} {s : State} {m : MethodId} {args : Array Value} {below : List Frame} {meth : Method} {c : Code} {X : Ec} {h0 : Hp} {o : Int32 × Hp} (C : Cx X p s m args meth c RX4 cX4_isGoal 2 (some .boolean) "isGoal") {h : Hp} {t0 : Int32} {H : Heap} {locs : List Loc} (hkm : Km h0 h) (hW : Wx X h H) (hZ : va_S (aA (eB X)) s.heap H locs) (ls : Array Slot) (hl : lv_has ls 2 []) (hE : sX4_isGoal_47 h  t0 = some o) : W p l e (rm 2 47) s m args below meth c H locs 0 0 (MQ below (QI X h0 o.1 o.2) args s 0 0 (aA (eB X))) (F0 m 47 ls [.int t0]) := by
  obtain ⟨g_1, hE⟩ := gd_e hE
  exact x_iret C rfl (narB g_1) hW hZ hkm hE dX4_isGoal_47
set_option maxRecDepth 20000 in
theorem bX4_isGoal_64 {p : Program} {l : Launch} {e : Env} {s : State} {m : MethodId} {args : Array Value} {below : List Frame} {meth : Method} {c : Code} {X : Ec} {h0 : Hp} {o : Int32 × Hp} (C : Cx X p s m args meth c RX4 cX4_isGoal 2 (some .boolean) "isGoal") {h : Hp} {t0 : Int32} {H : Heap} {locs : List Loc} (hkm : Km h0 h) (hW : Wx X h H) (hZ : va_S (aA (eB X)) s.heap H locs) (ls : Array Slot) (hl : lv_has ls 2 []) (hE : sX4_isGoal_64 h  t0 = some o) : W p l e (rm 2 47) s m args below meth c H locs 0 0 (MQ below (QI X h0 o.1 o.2) args s 0 0 (aA (eB X))) (F0 m 64 ls [.int t0]) := by
  obtain ⟨g_1, hE⟩ := gd_e hE
  exact x_iret C rfl (narB g_1) hW hZ hkm hE dX4_isGoal_64
set_option maxRecDepth 20000 in
theorem ct_X4_isGoal (l : Launch) (X : Ec) {h : Hp} {x0 : Nat} {x1 : Int32} {o : Int32 × Hp} (k_x0 : hK h x0 = 4) (hE : sX4_isGoal h x0 x1 = some o) : MetI l yX4_isGoal cX4_isGoal 2 (some .boolean) 2 47 X [.ref x0, .int x1] h o := by
  refine x_met (by decide) (Nat.le_of_ble_eq_true rfl) ?_
  intro p e s m below meth c ls C hl hW hZ
  have hl : lv_has ls 2 [(0, .ref x0), (1, .int x1)] := hl
  have hkm : Km h h := Km.rf h
  refine lv_aload_n C.1 C.2.1 dX4_isGoal_0 rfl (lv_at hl 0 rfl) ?_
  refine gf_X4_53 C hW k_x0 dX4_isGoal_1 ?_
  by_cases c_4 : (hI h x0 6) = (0 : Int32)
  · have hE := br_p hE c_4
    refine lv_lookup (off := 28) (tgt := 32) C.1 C.2.1 dX4_isGoal_4 (by decide) (by rw [c_4]; decide) (by decide) ?_
    refine lv_aload_n C.1 C.2.1 dX4_isGoal_32 rfl (lv_at hl 0 rfl) ?_
    obtain ⟨r_1, er_1, hE⟩ := cl_e hE
    refine gf_X4_22 C hW k_x0 er_1 dX4_isGoal_33 (fun k_r_1 => ?_)
    refine lv_iload_n C.1 C.2.1 dX4_isGoal_36 rfl (lv_at hl 1 rfl) ?_
    obtain ⟨g_2, hE⟩ := gd_e hE
    refine y_iald C hW k_r_1 g_2 dX4_isGoal_37 ?_
    refine lv_iconst (v := (5 : Int32)) C.1 C.2.1 dX4_isGoal_38 (by decide) ?_
    refine lv_icmp_ne (tgt := 46) C.1 C.2.1 dX4_isGoal_39 (by decide) (fun c_3 => ?_) (fun c_3 => ?_)
    · have hE := br_n hE c_3
      refine lv_iconst (v := (0 : Int32)) C.1 C.2.1 dX4_isGoal_46 (by decide) ?_
      exact bX4_isGoal_47 C hkm hW hZ _ (lv_sub hl [] rfl) hE
    · have hE := br_p hE c_3
      refine lv_iconst (v := (1 : Int32)) C.1 C.2.1 dX4_isGoal_42 (by decide) ?_
      refine lv_goto (tgt := 47) C.1 C.2.1 dX4_isGoal_43 (by decide) ?_
      exact bX4_isGoal_47 C hkm hW hZ _ (lv_sub hl [] rfl) hE
  have hE := br_n hE c_4
  by_cases c_8 : (hI h x0 6) = (1 : Int32)
  · have hE := br_p hE c_8
    refine lv_lookup (off := 44) (tgt := 48) C.1 C.2.1 dX4_isGoal_4 (by decide) (by rw [c_8]; decide) (by decide) ?_
    refine lv_aload_n C.1 C.2.1 dX4_isGoal_48 rfl (lv_at hl 0 rfl) ?_
    obtain ⟨r_5, er_5, hE⟩ := cl_e hE
    refine gf_X4_22 C hW k_x0 er_5 dX4_isGoal_49 (fun k_r_5 => ?_)
    refine lv_iload_n C.1 C.2.1 dX4_isGoal_52 rfl (lv_at hl 1 rfl) ?_
    obtain ⟨g_6, hE⟩ := gd_e hE
    refine y_iald C hW k_r_5 g_6 dX4_isGoal_53 ?_
    refine lv_bipush (v := (6 : Int32)) C.1 C.2.1 dX4_isGoal_54 (by decide) ?_
    refine lv_icmp_ne (tgt := 63) C.1 C.2.1 dX4_isGoal_56 (by decide) (fun c_7 => ?_) (fun c_7 => ?_)
    · have hE := br_n hE c_7
      refine lv_iconst (v := (0 : Int32)) C.1 C.2.1 dX4_isGoal_63 (by decide) ?_
      exact bX4_isGoal_64 C hkm hW hZ _ (lv_sub hl [] rfl) hE
    · have hE := br_p hE c_7
      refine lv_iconst (v := (1 : Int32)) C.1 C.2.1 dX4_isGoal_59 (by decide) ?_
      refine lv_goto (tgt := 64) C.1 C.2.1 dX4_isGoal_60 (by decide) ?_
      exact bX4_isGoal_64 C hkm hW hZ _ (lv_sub hl [] rfl) hE
  have hE := br_n hE c_8
  refine lv_lookup (off := 61) (tgt := 65) C.1 C.2.1 dX4_isGoal_4 (by decide) ((lv_osw c_4 (by decide)).trans ((lv_osw c_8 (by decide)).trans rfl)) (by decide) ?_
  refine lv_aload_n C.1 C.2.1 dX4_isGoal_65 rfl (lv_at hl 0 rfl) ?_
  obtain ⟨r_9, er_9, hE⟩ := cl_e hE
  refine gf_X4_45 C hW k_x0 er_9 dX4_isGoal_66 (fun k_r_9 => ?_)
  refine lv_aload_n C.1 C.2.1 dX4_isGoal_69 rfl (lv_at hl 0 rfl) ?_
  obtain ⟨r_10, er_10, hE⟩ := cl_e hE
  refine gf_X4_13 C hW k_x0 er_10 dX4_isGoal_70 (fun k_r_10 => ?_)
  refine lv_iload_n C.1 C.2.1 dX4_isGoal_73 rfl (lv_at hl 1 rfl) ?_
  obtain ⟨g_11, hE⟩ := gd_e hE
  obtain ⟨r_12, er_12, hE⟩ := cl_e hE
  refine y_aald (t0 := 4) C hW k_r_10 (by decide) (by decide) rfl rfl rfl (fun _ => rfl) g_11 er_12 dX4_isGoal_74 (fun k_r_12 => ?_)
  refine lv_aload_n C.1 C.2.1 dX4_isGoal_75 rfl (lv_at hl 0 rfl) ?_
  obtain ⟨r_13, er_13, hE⟩ := cl_e hE
  refine gf_X4_22 C hW k_x0 er_13 dX4_isGoal_76 (fun k_r_13 => ?_)
  refine lv_iload_n C.1 C.2.1 dX4_isGoal_79 rfl (lv_at hl 1 rfl) ?_
  obtain ⟨g_14, hE⟩ := gd_e hE
  refine y_iald C hW k_r_13 g_14 dX4_isGoal_80 ?_
  obtain ⟨o_15, eo_15, hE⟩ := cl_e hE
  refine x_kI (o := o_15) (z_runV (As := [.ref r_12, .int (hI h r_13 x1.toNatClampNeg)]) (rest := []) C (ct_X5_winnerOf l X k_r_9 k_r_12 eo_15) cw_X4_126 hW hZ k_r_9 (by decide) rfl rfl rfl hl.1 (Nat.le_of_ble_eq_true rfl) rfl dX4_isGoal_81 ⟨Nat.le_of_ble_eq_true rfl, Nat.le_of_ble_eq_true rfl⟩ ⟨Nat.le_refl _, Nat.le_refl _⟩) hZ (fun _ _ hW km hZ => ?_)
  replace hkm := hkm.tr km
  replace k_x0 := km.at k_x0 (by decide)
  refine lv_iconst (v := (1 : Int32)) C.1 C.2.1 dX4_isGoal_84 (by decide) ?_
  refine lv_aload_n C.1 C.2.1 dX4_isGoal_85 rfl (lv_at hl 0 rfl) ?_
  obtain ⟨r_16, er_16, hE⟩ := cl_e hE
  refine gf_X4_13 C hW k_x0 er_16 dX4_isGoal_86 (fun k_r_16 => ?_)
  refine lv_iload_n C.1 C.2.1 dX4_isGoal_89 rfl (lv_at hl 1 rfl) ?_
  obtain ⟨g_17, hE⟩ := gd_e hE
  obtain ⟨r_18, er_18, hE⟩ := cl_e hE
  refine y_aald (t0 := 4) C hW k_r_16 (by decide) (by decide) rfl rfl rfl (fun _ => rfl) g_17 er_18 dX4_isGoal_90 (fun k_r_18 => ?_)
  refine gf_X4_116 C hW k_r_18 dX4_isGoal_91 ?_
  refine lv_isub C.1 C.2.1 dX4_isGoal_94 ?_
  refine lv_icmp_ne (tgt := 102) C.1 C.2.1 dX4_isGoal_95 (by decide) (fun c_19 => ?_) (fun c_19 => ?_)
  · have hE := br_n hE c_19
    refine lv_iconst (v := (0 : Int32)) C.1 C.2.1 dX4_isGoal_102 (by decide) ?_
    exact bX4_isGoal_103 C hkm hW hZ _ (lv_sub hl [] rfl) hE
  · have hE := br_p hE c_19
    refine lv_iconst (v := (1 : Int32)) C.1 C.2.1 dX4_isGoal_98 (by decide) ?_
    refine lv_goto (tgt := 103) C.1 C.2.1 dX4_isGoal_99 (by decide) ?_
    exact bX4_isGoal_103 C hkm hW hZ _ (lv_sub hl [] rfl) hE
set_option maxRecDepth 100000 in
theorem ms_76 : Cond.selects RX4 yX4_goOn yX4_goOn ∈ W0 := w0_in (List.mem_append_left _ (List.mem_of_getElem? (i := 76) rfl)) rfl
set_option maxRecDepth 100000 in
theorem ms_75 : Cond.selects RX4 yX4_reply yX4_reply ∈ W0 := w0_in (List.mem_append_left _ (List.mem_of_getElem? (i := 75) rfl)) rfl
set_option maxRecDepth 100000 in
theorem ms_74 : Cond.selects RX4 yX4_isGoal yX4_isGoal ∈ W0 := w0_in (List.mem_append_left _ (List.mem_of_getElem? (i := 74) rfl)) rfl
set_option maxRecDepth 100000 in
theorem ms_73 : Cond.selects RX4 yX4_attempt yX4_attempt ∈ W0 := w0_in (List.mem_append_left _ (List.mem_of_getElem? (i := 73) rfl)) rfl
set_option maxRecDepth 100000 in
theorem ms_72 : Cond.selects RX4 yX4_branch yX4_branch ∈ W0 := w0_in (List.mem_append_left _ (List.mem_of_getElem? (i := 72) rfl)) rfl
set_option maxRecDepth 100000 in
theorem ms_71 : Cond.selects RX4 yX4_tree yX4_tree ∈ W0 := w0_in (List.mem_append_left _ (List.mem_of_getElem? (i := 71) rfl)) rfl
set_option maxRecDepth 100000 in
theorem m_537 : Cond.fieldLink RX4 83 (TX4 8).1 (TX4 8).2.1 (TX4 8).2.2.1 ∈ W0 := w0_in (List.mem_append_right _ (List.mem_of_getElem? (i := 537) rfl)) rfl
set_option maxRecDepth 100000 in
theorem m_1358 : Cond.instanceMethod yX4_tree ∈ W0 := w0_in (List.mem_append_right _ (List.mem_of_getElem? (i := 1358) rfl)) rfl
set_option maxRecDepth 100000 in
theorem m_1359 : Cond.code yX4_tree cX4_tree 8 (some .int) ∈ W0 := w0_in (List.mem_append_right _ (List.mem_of_getElem? (i := 1359) rfl)) rfl
set_option maxRecDepth 100000 in
theorem m_1360 : Cond.methodLink RX4 77 yX5_collect ∈ W0 := w0_in (List.mem_append_right _ (List.mem_of_getElem? (i := 1360) rfl)) rfl
set_option maxRecDepth 100000 in
theorem m_1361 : Cond.methodLink RX4 86 yX5_endOf ∈ W0 := w0_in (List.mem_append_right _ (List.mem_of_getElem? (i := 1361) rfl)) rfl
set_option maxRecDepth 100000 in
theorem m_1365 : Cond.constant RX4 90 (100000 : Int32) ∈ W0 := w0_in (List.mem_append_right _ (List.mem_of_getElem? (i := 1365) rfl)) rfl
set_option maxRecDepth 100000 in
theorem m_1366 : Cond.methodLink RX4 91 yX5_make ∈ W0 := w0_in (List.mem_append_right _ (List.mem_of_getElem? (i := 1366) rfl)) rfl
set_option maxRecDepth 100000 in
theorem m_1367 : Cond.methodLink RX4 95 yX4_branch ∈ W0 := w0_in (List.mem_append_right _ (List.mem_of_getElem? (i := 1367) rfl)) rfl
set_option maxRecDepth 100000 in
theorem m_1369 : Cond.instanceMethod yX4_branch ∈ W0 := w0_in (List.mem_append_right _ (List.mem_of_getElem? (i := 1369) rfl)) rfl
set_option maxRecDepth 100000 in
theorem m_1370 : Cond.code yX4_branch cX4_branch 3 (some .int) ∈ W0 := w0_in (List.mem_append_right _ (List.mem_of_getElem? (i := 1370) rfl)) rfl
set_option maxRecDepth 100000 in
theorem m_1371 : Cond.methodLink RX4 99 yX4_attempt ∈ W0 := w0_in (List.mem_append_right _ (List.mem_of_getElem? (i := 1371) rfl)) rfl
set_option maxRecDepth 100000 in
theorem m_1373 : Cond.instanceMethod yX4_attempt ∈ W0 := w0_in (List.mem_append_right _ (List.mem_of_getElem? (i := 1373) rfl)) rfl
set_option maxRecDepth 100000 in
theorem m_1374 : Cond.code yX4_attempt cX4_attempt 6 (some .int) ∈ W0 := w0_in (List.mem_append_right _ (List.mem_of_getElem? (i := 1374) rfl)) rfl
set_option maxRecDepth 100000 in
theorem m_1375 : Cond.methodLink RX4 106 yX4_tree ∈ W0 := w0_in (List.mem_append_right _ (List.mem_of_getElem? (i := 1375) rfl)) rfl
set_option maxRecDepth 100000 in
theorem m_1376 : Cond.methodLink RX4 109 yX4_isGoal ∈ W0 := w0_in (List.mem_append_right _ (List.mem_of_getElem? (i := 1376) rfl)) rfl
set_option maxRecDepth 100000 in
theorem m_1378 : Cond.instanceMethod yX4_isGoal ∈ W0 := w0_in (List.mem_append_right _ (List.mem_of_getElem? (i := 1378) rfl)) rfl
set_option maxRecDepth 100000 in
theorem m_1379 : Cond.code yX4_isGoal cX4_isGoal 2 (some .boolean) ∈ W0 := w0_in (List.mem_append_right _ (List.mem_of_getElem? (i := 1379) rfl)) rfl
set_option maxRecDepth 100000 in
theorem m_1384 : Cond.methodLink RX4 102 yX4_reply ∈ W0 := w0_in (List.mem_append_right _ (List.mem_of_getElem? (i := 1384) rfl)) rfl
set_option maxRecDepth 100000 in
theorem m_1386 : Cond.instanceMethod yX4_reply ∈ W0 := w0_in (List.mem_append_right _ (List.mem_of_getElem? (i := 1386) rfl)) rfl
set_option maxRecDepth 100000 in
theorem m_1387 : Cond.code yX4_reply cX4_reply 3 (some .int) ∈ W0 := w0_in (List.mem_append_right _ (List.mem_of_getElem? (i := 1387) rfl)) rfl
set_option maxRecDepth 100000 in
theorem m_1388 : Cond.methodLink RX4 113 yX4_goOn ∈ W0 := w0_in (List.mem_append_right _ (List.mem_of_getElem? (i := 1388) rfl)) rfl
set_option maxRecDepth 100000 in
theorem m_1390 : Cond.instanceMethod yX4_goOn ∈ W0 := w0_in (List.mem_append_right _ (List.mem_of_getElem? (i := 1390) rfl)) rfl
set_option maxRecDepth 100000 in
theorem m_1391 : Cond.code yX4_goOn cX4_goOn 3 (some .int) ∈ W0 := w0_in (List.mem_append_right _ (List.mem_of_getElem? (i := 1391) rfl)) rfl
set_option maxRecDepth 100000 in
theorem m_1392 : Cond.methodLink RX4 119 yX5_isRoyalHit ∈ W0 := w0_in (List.mem_append_right _ (List.mem_of_getElem? (i := 1392) rfl)) rfl
set_option maxRecDepth 100000 in
theorem m_1393 : Cond.methodLink RX4 123 yX3_clearPass ∈ W0 := w0_in (List.mem_append_right _ (List.mem_of_getElem? (i := 1393) rfl)) rfl
section
variable {p : Program} {l : Launch} {e : Env} {R : Room} {s : State} {m : MethodId} {args : Array Value} {below : List Frame} {meth : Method} {c : Code} {H : Heap} {locs : List Loc} {cells slots : Nat} {Q : State → Prop}
variable {cc : ByteArray} {pc : Nat} {ls : Array Slot} {rest : List Value} {X : Ec} {h h1 : Hp} {nL : Nat} {rt : Option FieldType} {mn : String}
theorem gf_X4_32 {a r : Nat} (C : Cx X p s m args meth c RX4 cc nL rt mn) (hW : Wx X h H) (ha : hK h a = 4) (hr : hR h a 11 = some r) (hdg : decode cc pc = .ok (.getfield 32, 3)) (kk : hK h r = 17 → W p l e R s m args below meth c H locs cells slots Q (F0 m (pc + 3) ls (.ref r :: rest))) : W p l e R s m args below meth c H locs cells slots Q (F0 m pc ls (.ref a :: rest)) :=
  y_getr C hW ha i_X4 (by decide) rfl (by decide) m_541 rfl rfl hr hdg kk
theorem gf_X4_19 {a r : Nat} (C : Cx X p s m args meth c RX4 cc nL rt mn) (hW : Wx X h H) (ha : hK h a = 4) (hr : hR h a 2 = some r) (hdg : decode cc pc = .ok (.getfield 19, 3)) (kk : hK h r = 23 → W p l e R s m args below meth c H locs cells slots Q (F0 m (pc + 3) ls (.ref r :: rest))) : W p l e R s m args below meth c H locs cells slots Q (F0 m pc ls (.ref a :: rest)) :=
  y_getr C hW ha i_X4 (by decide) rfl (by decide) m_531 rfl rfl hr hdg kk
theorem gf_X4_56 {a : Nat} (C : Cx X p s m args meth c RX4 cc nL rt mn) (hW : Wx X h H) (ha : hK h a = 4) (hdg : decode cc pc = .ok (.getfield 56, 3)) (kk : W p l e R s m args below meth c H locs cells slots Q (F0 m (pc + 3) ls (.int (hI h a 7) :: rest))) : W p l e R s m args below meth c H locs cells slots Q (F0 m pc ls (.ref a :: rest)) :=
  y_geti C hW ha i_X4 (by decide) rfl (by decide) m_536 rfl hdg kk
theorem pf_X4_116 {a : Nat} {v : Int32} (C : Cx X p s m args meth c RX4 cc nL rt mn) (hW : Wx X h H) (hZ : va_S (aA (eB X)) s.heap H locs) (ha : hK h a = 3) (eh : h1 = wI h a 5 v) (hdg : decode cc pc = .ok (.putfield 116, 3)) (kk : ∀ (H1 : Heap) (locs1 : List Loc), Wx X h1 H1 → Km h h1 → va_S (aA (eB X)) s.heap H1 locs1 → W p l e R s m args below meth c H1 locs1 cells slots Q (F0 m (pc + 3) ls rest)) : W p l e R s m args below meth c H locs cells slots Q (F0 m pc ls (.int v :: .ref a :: rest)) :=
  y_puti (ty := .int) C hW hZ ha i_X3 tyX3 tyX3_ok nmX3 (by decide) rfl rfl (by decide) m_300 rfl (by decide +kernel) rfl rfl rfl eh hdg kk
theorem gf_X4_29 {a r : Nat} (C : Cx X p s m args meth c RX4 cc nL rt mn) (hW : Wx X h H) (ha : hK h a = 4) (hr : hR h a 10 = some r) (hdg : decode cc pc = .ok (.getfield 29, 3)) (kk : hK h r = 17 → W p l e R s m args below meth c H locs cells slots Q (F0 m (pc + 3) ls (.ref r :: rest))) : W p l e R s m args below meth c H locs cells slots Q (F0 m pc ls (.ref a :: rest)) :=
  y_getr C hW ha i_X4 (by decide) rfl (by decide) m_540 rfl rfl hr hdg kk
theorem gf_X4_59 {a : Nat} (C : Cx X p s m args meth c RX4 cc nL rt mn) (hW : Wx X h H) (ha : hK h a = 4) (hdg : decode cc pc = .ok (.getfield 59, 3)) (kk : W p l e R s m args below meth c H locs cells slots Q (F0 m (pc + 3) ls (.int (hI h a 9) :: rest))) : W p l e R s m args below meth c H locs cells slots Q (F0 m pc ls (.ref a :: rest)) :=
  y_geti C hW ha i_X4 (by decide) rfl (by decide) m_538 rfl hdg kk
theorem pf_X4_83 {a : Nat} {v : Int32} (C : Cx X p s m args meth c RX4 cc nL rt mn) (hW : Wx X h H) (hZ : va_S (aA (eB X)) s.heap H locs) (ha : hK h a = 4) (eh : h1 = wI h a 8 v) (hdg : decode cc pc = .ok (.putfield 83, 3)) (kk : ∀ (H1 : Heap) (locs1 : List Loc), Wx X h1 H1 → Km h h1 → va_S (aA (eB X)) s.heap H1 locs1 → W p l e R s m args below meth c H1 locs1 cells slots Q (F0 m (pc + 3) ls rest)) : W p l e R s m args below meth c H locs cells slots Q (F0 m pc ls (.int v :: .ref a :: rest)) :=
  y_puti (ty := .int) C hW hZ ha i_X4 tyX4 tyX4_ok nmX4 (by decide) rfl rfl (by decide) m_537 rfl (by decide +kernel) rfl rfl rfl eh hdg kk
theorem gf_X4_83 {a : Nat} (C : Cx X p s m args meth c RX4 cc nL rt mn) (hW : Wx X h H) (ha : hK h a = 4) (hdg : decode cc pc = .ok (.getfield 83, 3)) (kk : W p l e R s m args below meth c H locs cells slots Q (F0 m (pc + 3) ls (.int (hI h a 8) :: rest))) : W p l e R s m args below meth c H locs cells slots Q (F0 m pc ls (.ref a :: rest)) :=
  y_geti C hW ha i_X4 (by decide) rfl (by decide) m_537 rfl hdg kk
end
theorem cw_X4_109 : cwd RX4 109 yX4_isGoal cX4_isGoal 2 (some .boolean) false 1 := ⟨m_1379, m_1376, m_14, ⟨m_1378, ms_74⟩, by decide, by decide, by decide +kernel⟩
theorem cw_X4_77 : cwd RX4 77 yX5_collect cX5_collect 9 (some .int) false 3 := ⟨m_1140, m_1360, m_7, ⟨m_1138, m_1139⟩, by decide, by decide, by decide +kernel⟩
theorem cw_X4_106 : cwd RX4 106 yX4_tree cX4_tree 8 (some .int) false 1 := ⟨m_1359, m_1375, m_14, ⟨m_1358, ms_71⟩, by decide, by decide, by decide +kernel⟩
theorem cw_X4_119 : cwd RX4 119 yX5_isRoyalHit cX5_isRoyalHit 3 (some .boolean) false 2 := ⟨m_1069, m_1392, m_7, ⟨m_1067, m_1068⟩, by decide, by decide, by decide +kernel⟩
theorem cw_X4_123 : cwd RX4 123 yX3_clearPass cX3_clearPass 1 none false 0 := ⟨m_1334, m_1393, m_8, ⟨m_1332, m_1333⟩, by decide, by decide, by decide +kernel⟩
theorem cw_X4_102 : cwd RX4 102 yX4_reply cX4_reply 3 (some .int) false 1 := ⟨m_1387, m_1384, m_14, ⟨m_1386, ms_75⟩, by decide, by decide, by decide +kernel⟩
theorem cw_X4_99 : cwd RX4 99 yX4_attempt cX4_attempt 6 (some .int) false 2 := ⟨m_1374, m_1371, m_14, ⟨m_1373, ms_73⟩, by decide, by decide, by decide +kernel⟩
theorem cw_X4_113 : cwd RX4 113 yX4_goOn cX4_goOn 3 (some .int) false 1 := ⟨m_1391, m_1388, m_14, ⟨m_1390, ms_76⟩, by decide, by decide, by decide +kernel⟩
theorem cw_X4_95 : cwd RX4 95 yX4_branch cX4_branch 3 (some .int) false 2 := ⟨m_1370, m_1367, m_14, ⟨m_1369, ms_72⟩, by decide, by decide, by decide +kernel⟩
theorem cw_X4_86 : cwd RX4 86 yX5_endOf cX5_endOf 3 (some .int) false 1 := ⟨m_1364, m_1361, m_7, ⟨m_1362, m_1363⟩, by decide, by decide, by decide +kernel⟩
theorem cw_X4_91 : cwd RX4 91 yX5_make cX5_make 8 none false 2 := ⟨m_1324, m_1366, m_7, ⟨m_1322, m_1323⟩, by decide, by decide, by decide +kernel⟩
theorem dX4_attempt_0 : decode cX4_attempt 0 = .ok (.iload_n 1, 1) := by decide +kernel
theorem dX4_attempt_1 : decode cX4_attempt 1 = .ok (.iconst 1, 1) := by decide +kernel
theorem dX4_attempt_2 : decode cX4_attempt 2 = .ok (.iadd, 1) := by decide +kernel
theorem dX4_attempt_3 : decode cX4_attempt 3 = .ok (.aload_n 0, 1) := by decide +kernel
theorem dX4_attempt_4 : decode cX4_attempt 4 = .ok (.getfield 56, 3) := by decide +kernel
theorem dX4_attempt_7 : decode cX4_attempt 7 = .ok (.if_icmp .ge 7, 3) := by decide +kernel
theorem dX4_attempt_10 : decode cX4_attempt 10 = .ok (.iconst 1, 1) := by decide +kernel
theorem dX4_attempt_11 : decode cX4_attempt 11 = .ok (.goto 4, 3) := by decide +kernel
theorem dX4_attempt_14 : decode cX4_attempt 14 = .ok (.iconst 0, 1) := by decide +kernel
theorem dX4_attempt_15 : decode cX4_attempt 15 = .ok (.istore_n 3, 1) := by decide +kernel
theorem dX4_attempt_16 : decode cX4_attempt 16 = .ok (.iload_n 3, 1) := by decide +kernel
theorem dX4_attempt_17 : decode cX4_attempt 17 = .ok (.ifCond .eq 13, 3) := by decide +kernel
theorem dX4_attempt_20 : decode cX4_attempt 20 = .ok (.aload_n 0, 1) := by decide +kernel
theorem dX4_attempt_21 : decode cX4_attempt 21 = .ok (.iload_n 1, 1) := by decide +kernel
theorem dX4_attempt_22 : decode cX4_attempt 22 = .ok (.iconst 1, 1) := by decide +kernel
theorem dX4_attempt_23 : decode cX4_attempt 23 = .ok (.iadd, 1) := by decide +kernel
theorem dX4_attempt_24 : decode cX4_attempt 24 = .ok (.invokevirtual 106, 3) := by decide +kernel
theorem dX4_attempt_27 : decode cX4_attempt 27 = .ok (.goto 4, 3) := by decide +kernel
theorem dX4_attempt_30 : decode cX4_attempt 30 = .ok (.iconst 0, 1) := by decide +kernel
theorem dX4_attempt_31 : decode cX4_attempt 31 = .ok (.istore 4, 2) := by decide +kernel
theorem dX4_attempt_33 : decode cX4_attempt 33 = .ok (.iload_n 1, 1) := by decide +kernel
theorem dX4_attempt_34 : decode cX4_attempt 34 = .ok (.ifCond .ne 40, 3) := by decide +kernel
theorem dX4_attempt_37 : decode cX4_attempt 37 = .ok (.aload_n 0, 1) := by decide +kernel
theorem dX4_attempt_38 : decode cX4_attempt 38 = .ok (.getfield 32, 3) := by decide +kernel
theorem dX4_attempt_41 : decode cX4_attempt 41 = .ok (.iload_n 2, 1) := by decide +kernel
theorem dX4_attempt_42 : decode cX4_attempt 42 = .ok (.iload_n 3, 1) := by decide +kernel
theorem dX4_attempt_43 : decode cX4_attempt 43 = .ok (.ifCond .eq 8, 3) := by decide +kernel
theorem dX4_attempt_46 : decode cX4_attempt 46 = .ok (.iload 4, 2) := by decide +kernel
theorem dX4_attempt_48 : decode cX4_attempt 48 = .ok (.goto 25, 3) := by decide +kernel
theorem dX4_attempt_51 : decode cX4_attempt 51 = .ok (.aload_n 0, 1) := by decide +kernel
theorem dX4_attempt_52 : decode cX4_attempt 52 = .ok (.getfield 45, 3) := by decide +kernel
theorem dX4_attempt_55 : decode cX4_attempt 55 = .ok (.aload_n 0, 1) := by decide +kernel
theorem dX4_attempt_56 : decode cX4_attempt 56 = .ok (.getfield 13, 3) := by decide +kernel
theorem dX4_attempt_59 : decode cX4_attempt 59 = .ok (.iconst 1, 1) := by decide +kernel
theorem dX4_attempt_60 : decode cX4_attempt 60 = .ok (.aaload, 1) := by decide +kernel
theorem dX4_attempt_61 : decode cX4_attempt 61 = .ok (.aload_n 0, 1) := by decide +kernel
theorem dX4_attempt_62 : decode cX4_attempt 62 = .ok (.getfield 19, 3) := by decide +kernel
theorem dX4_attempt_65 : decode cX4_attempt 65 = .ok (.iconst 1, 1) := by decide +kernel
theorem dX4_attempt_66 : decode cX4_attempt 66 = .ok (.aaload, 1) := by decide +kernel
theorem dX4_attempt_67 : decode cX4_attempt 67 = .ok (.sipush 4096, 3) := by decide +kernel
theorem dX4_attempt_70 : decode cX4_attempt 70 = .ok (.invokevirtual 77, 3) := by decide +kernel
theorem dX4_attempt_73 : decode cX4_attempt 73 = .ok (.iastore, 1) := by decide +kernel
theorem dX4_attempt_74 : decode cX4_attempt 74 = .ok (.aload_n 0, 1) := by decide +kernel
theorem dX4_attempt_75 : decode cX4_attempt 75 = .ok (.getfield 22, 3) := by decide +kernel
theorem dX4_attempt_78 : decode cX4_attempt 78 = .ok (.iload_n 1, 1) := by decide +kernel
theorem dX4_attempt_79 : decode cX4_attempt 79 = .ok (.iconst 1, 1) := by decide +kernel
theorem dX4_attempt_80 : decode cX4_attempt 80 = .ok (.iadd, 1) := by decide +kernel
theorem dX4_attempt_81 : decode cX4_attempt 81 = .ok (.iaload, 1) := by decide +kernel
theorem dX4_attempt_82 : decode cX4_attempt 82 = .ok (.ifCond .ne 20, 3) := by decide +kernel
theorem dX4_attempt_85 : decode cX4_attempt 85 = .ok (.iload_n 3, 1) := by decide +kernel
theorem dX4_attempt_86 : decode cX4_attempt 86 = .ok (.ifCond .eq 12, 3) := by decide +kernel
theorem dX4_attempt_89 : decode cX4_attempt 89 = .ok (.iload 4, 2) := by decide +kernel
theorem dX4_attempt_91 : decode cX4_attempt 91 = .ok (.ifCond .ne 7, 3) := by decide +kernel
theorem dX4_attempt_94 : decode cX4_attempt 94 = .ok (.iconst 1, 1) := by decide +kernel
theorem dX4_attempt_95 : decode cX4_attempt 95 = .ok (.goto 29, 3) := by decide +kernel
theorem dX4_attempt_98 : decode cX4_attempt 98 = .ok (.iconst 0, 1) := by decide +kernel
theorem dX4_attempt_99 : decode cX4_attempt 99 = .ok (.goto 25, 3) := by decide +kernel
theorem dX4_attempt_102 : decode cX4_attempt 102 = .ok (.aload_n 0, 1) := by decide +kernel
theorem dX4_attempt_103 : decode cX4_attempt 103 = .ok (.getfield 50, 3) := by decide +kernel
theorem dX4_attempt_106 : decode cX4_attempt 106 = .ok (.ifCond .ne 17, 3) := by decide +kernel
theorem dX4_attempt_109 : decode cX4_attempt 109 = .ok (.aload_n 0, 1) := by decide +kernel
theorem dX4_attempt_110 : decode cX4_attempt 110 = .ok (.iload_n 1, 1) := by decide +kernel
theorem dX4_attempt_111 : decode cX4_attempt 111 = .ok (.iconst 1, 1) := by decide +kernel
theorem dX4_attempt_112 : decode cX4_attempt 112 = .ok (.iadd, 1) := by decide +kernel
theorem dX4_attempt_113 : decode cX4_attempt 113 = .ok (.invokevirtual 109, 3) := by decide +kernel
theorem dX4_attempt_116 : decode cX4_attempt 116 = .ok (.ifCond .eq 7, 3) := by decide +kernel
theorem dX4_attempt_119 : decode cX4_attempt 119 = .ok (.iconst 1, 1) := by decide +kernel
theorem dX4_attempt_120 : decode cX4_attempt 120 = .ok (.goto 4, 3) := by decide +kernel
theorem dX4_attempt_123 : decode cX4_attempt 123 = .ok (.iconst 0, 1) := by decide +kernel
theorem dX4_attempt_124 : decode cX4_attempt 124 = .ok (.istore 5, 2) := by decide +kernel
theorem dX4_attempt_126 : decode cX4_attempt 126 = .ok (.iload 5, 2) := by decide +kernel
theorem dX4_attempt_128 : decode cX4_attempt 128 = .ok (.ifCond .eq 7, 3) := by decide +kernel
theorem dX4_attempt_131 : decode cX4_attempt 131 = .ok (.iconst 1, 1) := by decide +kernel
theorem dX4_attempt_132 : decode cX4_attempt 132 = .ok (.goto 4, 3) := by decide +kernel
theorem dX4_attempt_135 : decode cX4_attempt 135 = .ok (.iconst 0, 1) := by decide +kernel
theorem dX4_attempt_136 : decode cX4_attempt 136 = .ok (.ireturn, 1) := by decide +kernel
theorem dX4_reply_0 : decode cX4_reply 0 = .ok (.iload_n 1, 1) := by decide +kernel
theorem dX4_reply_1 : decode cX4_reply 1 = .ok (.iconst 1, 1) := by decide +kernel
theorem dX4_reply_2 : decode cX4_reply 2 = .ok (.iadd, 1) := by decide +kernel
theorem dX4_reply_3 : decode cX4_reply 3 = .ok (.aload_n 0, 1) := by decide +kernel
theorem dX4_reply_4 : decode cX4_reply 4 = .ok (.getfield 56, 3) := by decide +kernel
theorem dX4_reply_7 : decode cX4_reply 7 = .ok (.if_icmp .ge 17, 3) := by decide +kernel
theorem dX4_reply_10 : decode cX4_reply 10 = .ok (.aload_n 0, 1) := by decide +kernel
theorem dX4_reply_11 : decode cX4_reply 11 = .ok (.iload_n 1, 1) := by decide +kernel
theorem dX4_reply_12 : decode cX4_reply 12 = .ok (.iconst 1, 1) := by decide +kernel
theorem dX4_reply_13 : decode cX4_reply 13 = .ok (.iadd, 1) := by decide +kernel
theorem dX4_reply_14 : decode cX4_reply 14 = .ok (.invokevirtual 106, 3) := by decide +kernel
theorem dX4_reply_17 : decode cX4_reply 17 = .ok (.ifCond .le 7, 3) := by decide +kernel
theorem dX4_reply_20 : decode cX4_reply 20 = .ok (.iconst 1, 1) := by decide +kernel
theorem dX4_reply_21 : decode cX4_reply 21 = .ok (.goto 4, 3) := by decide +kernel
theorem dX4_reply_24 : decode cX4_reply 24 = .ok (.iconst 0, 1) := by decide +kernel
theorem dX4_reply_25 : decode cX4_reply 25 = .ok (.istore_n 2, 1) := by decide +kernel
theorem dX4_reply_26 : decode cX4_reply 26 = .ok (.iload_n 2, 1) := by decide +kernel
theorem dX4_reply_27 : decode cX4_reply 27 = .ok (.ifCond .ne 21, 3) := by decide +kernel
theorem dX4_reply_30 : decode cX4_reply 30 = .ok (.aload_n 0, 1) := by decide +kernel
theorem dX4_reply_31 : decode cX4_reply 31 = .ok (.getfield 50, 3) := by decide +kernel
theorem dX4_reply_34 : decode cX4_reply 34 = .ok (.iconst 1, 1) := by decide +kernel
theorem dX4_reply_35 : decode cX4_reply 35 = .ok (.if_icmp .ne 17, 3) := by decide +kernel
theorem dX4_reply_38 : decode cX4_reply 38 = .ok (.aload_n 0, 1) := by decide +kernel
theorem dX4_reply_39 : decode cX4_reply 39 = .ok (.iload_n 1, 1) := by decide +kernel
theorem dX4_reply_40 : decode cX4_reply 40 = .ok (.iconst 1, 1) := by decide +kernel
theorem dX4_reply_41 : decode cX4_reply 41 = .ok (.iadd, 1) := by decide +kernel
theorem dX4_reply_42 : decode cX4_reply 42 = .ok (.invokevirtual 109, 3) := by decide +kernel
theorem dX4_reply_45 : decode cX4_reply 45 = .ok (.ifCond .eq 7, 3) := by decide +kernel
theorem dX4_reply_48 : decode cX4_reply 48 = .ok (.iconst 0, 1) := by decide +kernel
theorem dX4_reply_49 : decode cX4_reply 49 = .ok (.goto 4, 3) := by decide +kernel
theorem dX4_reply_52 : decode cX4_reply 52 = .ok (.iconst 1, 1) := by decide +kernel
theorem dX4_reply_53 : decode cX4_reply 53 = .ok (.ireturn, 1) := by decide +kernel
theorem dX4_goOn_0 : decode cX4_goOn 0 = .ok (.aload_n 0, 1) := by decide +kernel
theorem dX4_goOn_1 : decode cX4_goOn 1 = .ok (.getfield 13, 3) := by decide +kernel
theorem dX4_goOn_4 : decode cX4_goOn 4 = .ok (.iload_n 1, 1) := by decide +kernel
theorem dX4_goOn_5 : decode cX4_goOn 5 = .ok (.iconst 1, 1) := by decide +kernel
theorem dX4_goOn_6 : decode cX4_goOn 6 = .ok (.iadd, 1) := by decide +kernel
theorem dX4_goOn_7 : decode cX4_goOn 7 = .ok (.aaload, 1) := by decide +kernel
theorem dX4_goOn_8 : decode cX4_goOn 8 = .ok (.astore_n 2, 1) := by decide +kernel
theorem dX4_goOn_9 : decode cX4_goOn 9 = .ok (.aload_n 0, 1) := by decide +kernel
theorem dX4_goOn_10 : decode cX4_goOn 10 = .ok (.getfield 22, 3) := by decide +kernel
theorem dX4_goOn_13 : decode cX4_goOn 13 = .ok (.iload_n 1, 1) := by decide +kernel
theorem dX4_goOn_14 : decode cX4_goOn 14 = .ok (.iconst 1, 1) := by decide +kernel
theorem dX4_goOn_15 : decode cX4_goOn 15 = .ok (.iadd, 1) := by decide +kernel
theorem dX4_goOn_16 : decode cX4_goOn 16 = .ok (.iaload, 1) := by decide +kernel
theorem dX4_goOn_17 : decode cX4_goOn 17 = .ok (.ifCond .ne 18, 3) := by decide +kernel
theorem dX4_goOn_20 : decode cX4_goOn 20 = .ok (.aload_n 0, 1) := by decide +kernel
theorem dX4_goOn_21 : decode cX4_goOn 21 = .ok (.getfield 45, 3) := by decide +kernel
theorem dX4_goOn_24 : decode cX4_goOn 24 = .ok (.aload_n 2, 1) := by decide +kernel
theorem dX4_goOn_25 : decode cX4_goOn 25 = .ok (.aload_n 2, 1) := by decide +kernel
theorem dX4_goOn_26 : decode cX4_goOn 26 = .ok (.getfield 116, 3) := by decide +kernel
theorem dX4_goOn_29 : decode cX4_goOn 29 = .ok (.invokevirtual 119, 3) := by decide +kernel
theorem dX4_goOn_32 : decode cX4_goOn 32 = .ok (.ifCond .eq 5, 3) := by decide +kernel
theorem dX4_goOn_35 : decode cX4_goOn 35 = .ok (.iconst 0, 1) := by decide +kernel
theorem dX4_goOn_36 : decode cX4_goOn 36 = .ok (.ireturn, 1) := by decide +kernel
theorem dX4_goOn_37 : decode cX4_goOn 37 = .ok (.aload_n 2, 1) := by decide +kernel
theorem dX4_goOn_38 : decode cX4_goOn 38 = .ok (.iconst 1, 1) := by decide +kernel
theorem dX4_goOn_39 : decode cX4_goOn 39 = .ok (.aload_n 2, 1) := by decide +kernel
theorem dX4_goOn_40 : decode cX4_goOn 40 = .ok (.getfield 116, 3) := by decide +kernel
theorem dX4_goOn_43 : decode cX4_goOn 43 = .ok (.isub, 1) := by decide +kernel
theorem dX4_goOn_44 : decode cX4_goOn 44 = .ok (.putfield 116, 3) := by decide +kernel
theorem dX4_goOn_47 : decode cX4_goOn 47 = .ok (.aload_n 2, 1) := by decide +kernel
theorem dX4_goOn_48 : decode cX4_goOn 48 = .ok (.invokevirtual 123, 3) := by decide +kernel
theorem dX4_goOn_51 : decode cX4_goOn 51 = .ok (.aload_n 0, 1) := by decide +kernel
theorem dX4_goOn_52 : decode cX4_goOn 52 = .ok (.iload_n 1, 1) := by decide +kernel
theorem dX4_goOn_53 : decode cX4_goOn 53 = .ok (.iconst 1, 1) := by decide +kernel
theorem dX4_goOn_54 : decode cX4_goOn 54 = .ok (.iadd, 1) := by decide +kernel
theorem dX4_goOn_55 : decode cX4_goOn 55 = .ok (.invokevirtual 106, 3) := by decide +kernel
theorem dX4_goOn_58 : decode cX4_goOn 58 = .ok (.ireturn, 1) := by decide +kernel
theorem dX4_branch_0 : decode cX4_branch 0 = .ok (.aload_n 0, 1) := by decide +kernel
theorem dX4_branch_1 : decode cX4_branch 1 = .ok (.getfield 50, 3) := by decide +kernel
theorem dX4_branch_4 : decode cX4_branch 4 = .ok (.tableswitch 123 0 3 #[32, 32, 53, 89], 32) := by decide +kernel
theorem dX4_branch_36 : decode cX4_branch 36 = .ok (.iload_n 1, 1) := by decide +kernel
theorem dX4_branch_37 : decode cX4_branch 37 = .ok (.iconst 1, 1) := by decide +kernel
theorem dX4_branch_38 : decode cX4_branch 38 = .ok (.iand, 1) := by decide +kernel
theorem dX4_branch_39 : decode cX4_branch 39 = .ok (.ifCond .ne 12, 3) := by decide +kernel
theorem dX4_branch_42 : decode cX4_branch 42 = .ok (.aload_n 0, 1) := by decide +kernel
theorem dX4_branch_43 : decode cX4_branch 43 = .ok (.iload_n 1, 1) := by decide +kernel
theorem dX4_branch_44 : decode cX4_branch 44 = .ok (.iload_n 2, 1) := by decide +kernel
theorem dX4_branch_45 : decode cX4_branch 45 = .ok (.invokevirtual 99, 3) := by decide +kernel
theorem dX4_branch_48 : decode cX4_branch 48 = .ok (.goto 8, 3) := by decide +kernel
theorem dX4_branch_51 : decode cX4_branch 51 = .ok (.aload_n 0, 1) := by decide +kernel
theorem dX4_branch_52 : decode cX4_branch 52 = .ok (.iload_n 1, 1) := by decide +kernel
theorem dX4_branch_53 : decode cX4_branch 53 = .ok (.invokevirtual 102, 3) := by decide +kernel
theorem dX4_branch_56 : decode cX4_branch 56 = .ok (.ireturn, 1) := by decide +kernel
theorem dX4_branch_57 : decode cX4_branch 57 = .ok (.iload_n 1, 1) := by decide +kernel
theorem dX4_branch_58 : decode cX4_branch 58 = .ok (.iconst 1, 1) := by decide +kernel
theorem dX4_branch_59 : decode cX4_branch 59 = .ok (.iadd, 1) := by decide +kernel
theorem dX4_branch_60 : decode cX4_branch 60 = .ok (.aload_n 0, 1) := by decide +kernel
theorem dX4_branch_61 : decode cX4_branch 61 = .ok (.getfield 56, 3) := by decide +kernel
theorem dX4_branch_64 : decode cX4_branch 64 = .ok (.if_icmp .ge 13, 3) := by decide +kernel
theorem dX4_branch_67 : decode cX4_branch 67 = .ok (.aload_n 0, 1) := by decide +kernel
theorem dX4_branch_68 : decode cX4_branch 68 = .ok (.iload_n 1, 1) := by decide +kernel
theorem dX4_branch_69 : decode cX4_branch 69 = .ok (.iconst 1, 1) := by decide +kernel
theorem dX4_branch_70 : decode cX4_branch 70 = .ok (.iadd, 1) := by decide +kernel
theorem dX4_branch_71 : decode cX4_branch 71 = .ok (.invokevirtual 106, 3) := by decide +kernel
theorem dX4_branch_74 : decode cX4_branch 74 = .ok (.goto 18, 3) := by decide +kernel
theorem dX4_branch_77 : decode cX4_branch 77 = .ok (.aload_n 0, 1) := by decide +kernel
theorem dX4_branch_78 : decode cX4_branch 78 = .ok (.iload_n 1, 1) := by decide +kernel
theorem dX4_branch_79 : decode cX4_branch 79 = .ok (.iconst 1, 1) := by decide +kernel
theorem dX4_branch_80 : decode cX4_branch 80 = .ok (.iadd, 1) := by decide +kernel
theorem dX4_branch_81 : decode cX4_branch 81 = .ok (.invokevirtual 109, 3) := by decide +kernel
theorem dX4_branch_84 : decode cX4_branch 84 = .ok (.ifCond .eq 7, 3) := by decide +kernel
theorem dX4_branch_87 : decode cX4_branch 87 = .ok (.iconst 1, 1) := by decide +kernel
theorem dX4_branch_88 : decode cX4_branch 88 = .ok (.goto 4, 3) := by decide +kernel
theorem dX4_branch_91 : decode cX4_branch 91 = .ok (.iconst 0, 1) := by decide +kernel
theorem dX4_branch_92 : decode cX4_branch 92 = .ok (.ireturn, 1) := by decide +kernel
theorem dX4_branch_93 : decode cX4_branch 93 = .ok (.iload_n 1, 1) := by decide +kernel
theorem dX4_branch_94 : decode cX4_branch 94 = .ok (.iconst 1, 1) := by decide +kernel
theorem dX4_branch_95 : decode cX4_branch 95 = .ok (.iadd, 1) := by decide +kernel
theorem dX4_branch_96 : decode cX4_branch 96 = .ok (.aload_n 0, 1) := by decide +kernel
theorem dX4_branch_97 : decode cX4_branch 97 = .ok (.getfield 56, 3) := by decide +kernel
theorem dX4_branch_100 : decode cX4_branch 100 = .ok (.if_icmp .ge 11, 3) := by decide +kernel
theorem dX4_branch_103 : decode cX4_branch 103 = .ok (.aload_n 0, 1) := by decide +kernel
theorem dX4_branch_104 : decode cX4_branch 104 = .ok (.iload_n 1, 1) := by decide +kernel
theorem dX4_branch_105 : decode cX4_branch 105 = .ok (.invokevirtual 113, 3) := by decide +kernel
theorem dX4_branch_108 : decode cX4_branch 108 = .ok (.goto 18, 3) := by decide +kernel
theorem dX4_branch_111 : decode cX4_branch 111 = .ok (.aload_n 0, 1) := by decide +kernel
theorem dX4_branch_112 : decode cX4_branch 112 = .ok (.iload_n 1, 1) := by decide +kernel
theorem dX4_branch_113 : decode cX4_branch 113 = .ok (.iconst 1, 1) := by decide +kernel
theorem dX4_branch_114 : decode cX4_branch 114 = .ok (.iadd, 1) := by decide +kernel
theorem dX4_branch_115 : decode cX4_branch 115 = .ok (.invokevirtual 109, 3) := by decide +kernel
theorem dX4_branch_118 : decode cX4_branch 118 = .ok (.ifCond .eq 7, 3) := by decide +kernel
theorem dX4_branch_121 : decode cX4_branch 121 = .ok (.iconst 1, 1) := by decide +kernel
theorem dX4_branch_122 : decode cX4_branch 122 = .ok (.goto 4, 3) := by decide +kernel
theorem dX4_branch_125 : decode cX4_branch 125 = .ok (.iconst 0, 1) := by decide +kernel
theorem dX4_branch_126 : decode cX4_branch 126 = .ok (.ireturn, 1) := by decide +kernel
theorem dX4_branch_127 : decode cX4_branch 127 = .ok (.aload_n 0, 1) := by decide +kernel
theorem dX4_branch_128 : decode cX4_branch 128 = .ok (.iload_n 1, 1) := by decide +kernel
theorem dX4_branch_129 : decode cX4_branch 129 = .ok (.iconst 1, 1) := by decide +kernel
theorem dX4_branch_130 : decode cX4_branch 130 = .ok (.iadd, 1) := by decide +kernel
theorem dX4_branch_131 : decode cX4_branch 131 = .ok (.invokevirtual 106, 3) := by decide +kernel
theorem dX4_branch_134 : decode cX4_branch 134 = .ok (.ireturn, 1) := by decide +kernel
theorem dX4_tree_0 : decode cX4_tree 0 = .ok (.iload_n 1, 1) := by decide +kernel
theorem dX4_tree_1 : decode cX4_tree 1 = .ok (.ifCond .lt 17, 3) := by decide +kernel
theorem dX4_tree_4 : decode cX4_tree 4 = .ok (.iload_n 1, 1) := by decide +kernel
theorem dX4_tree_5 : decode cX4_tree 5 = .ok (.aload_n 0, 1) := by decide +kernel
theorem dX4_tree_6 : decode cX4_tree 6 = .ok (.getfield 56, 3) := by decide +kernel
theorem dX4_tree_9 : decode cX4_tree 9 = .ok (.if_icmp .ge 9, 3) := by decide +kernel
theorem dX4_tree_12 : decode cX4_tree 12 = .ok (.iload_n 1, 1) := by decide +kernel
theorem dX4_tree_13 : decode cX4_tree 13 = .ok (.bipush 8, 2) := by decide +kernel
theorem dX4_tree_15 : decode cX4_tree 15 = .ok (.if_icmp .lt 5, 3) := by decide +kernel
theorem dX4_tree_18 : decode cX4_tree 18 = .ok (.iconst 0, 1) := by decide +kernel
theorem dX4_tree_19 : decode cX4_tree 19 = .ok (.ireturn, 1) := by decide +kernel
theorem dX4_tree_20 : decode cX4_tree 20 = .ok (.aload_n 0, 1) := by decide +kernel
theorem dX4_tree_21 : decode cX4_tree 21 = .ok (.getfield 19, 3) := by decide +kernel
theorem dX4_tree_24 : decode cX4_tree 24 = .ok (.iload_n 1, 1) := by decide +kernel
theorem dX4_tree_25 : decode cX4_tree 25 = .ok (.aaload, 1) := by decide +kernel
theorem dX4_tree_26 : decode cX4_tree 26 = .ok (.astore_n 2, 1) := by decide +kernel
theorem dX4_tree_27 : decode cX4_tree 27 = .ok (.aload_n 0, 1) := by decide +kernel
theorem dX4_tree_28 : decode cX4_tree 28 = .ok (.getfield 45, 3) := by decide +kernel
theorem dX4_tree_31 : decode cX4_tree 31 = .ok (.aload_n 0, 1) := by decide +kernel
theorem dX4_tree_32 : decode cX4_tree 32 = .ok (.getfield 13, 3) := by decide +kernel
theorem dX4_tree_35 : decode cX4_tree 35 = .ok (.iload_n 1, 1) := by decide +kernel
theorem dX4_tree_36 : decode cX4_tree 36 = .ok (.aaload, 1) := by decide +kernel
theorem dX4_tree_37 : decode cX4_tree 37 = .ok (.aload_n 2, 1) := by decide +kernel
theorem dX4_tree_38 : decode cX4_tree 38 = .ok (.sipush 4096, 3) := by decide +kernel
theorem dX4_tree_41 : decode cX4_tree 41 = .ok (.invokevirtual 77, 3) := by decide +kernel
theorem dX4_tree_44 : decode cX4_tree 44 = .ok (.istore_n 3, 1) := by decide +kernel
theorem dX4_tree_45 : decode cX4_tree 45 = .ok (.aload_n 0, 1) := by decide +kernel
theorem dX4_tree_46 : decode cX4_tree 46 = .ok (.iload_n 1, 1) := by decide +kernel
theorem dX4_tree_47 : decode cX4_tree 47 = .ok (.ifCond .ne 7, 3) := by decide +kernel
theorem dX4_tree_50 : decode cX4_tree 50 = .ok (.iload_n 3, 1) := by decide +kernel
theorem dX4_tree_51 : decode cX4_tree 51 = .ok (.goto 7, 3) := by decide +kernel
theorem dX4_tree_54 : decode cX4_tree 54 = .ok (.aload_n 0, 1) := by decide +kernel
theorem dX4_tree_55 : decode cX4_tree 55 = .ok (.getfield 83, 3) := by decide +kernel
theorem dX4_tree_58 : decode cX4_tree 58 = .ok (.putfield 83, 3) := by decide +kernel
theorem dX4_tree_61 : decode cX4_tree 61 = .ok (.aload_n 0, 1) := by decide +kernel
theorem dX4_tree_62 : decode cX4_tree 62 = .ok (.getfield 22, 3) := by decide +kernel
theorem dX4_tree_65 : decode cX4_tree 65 = .ok (.iload_n 1, 1) := by decide +kernel
theorem dX4_tree_66 : decode cX4_tree 66 = .ok (.iload_n 3, 1) := by decide +kernel
theorem dX4_tree_67 : decode cX4_tree 67 = .ok (.ifCond .le 7, 3) := by decide +kernel
theorem dX4_tree_70 : decode cX4_tree 70 = .ok (.iconst 0, 1) := by decide +kernel
theorem dX4_tree_71 : decode cX4_tree 71 = .ok (.goto 16, 3) := by decide +kernel
theorem dX4_tree_74 : decode cX4_tree 74 = .ok (.aload_n 0, 1) := by decide +kernel
theorem dX4_tree_75 : decode cX4_tree 75 = .ok (.getfield 45, 3) := by decide +kernel
theorem dX4_tree_78 : decode cX4_tree 78 = .ok (.aload_n 0, 1) := by decide +kernel
theorem dX4_tree_79 : decode cX4_tree 79 = .ok (.getfield 13, 3) := by decide +kernel
theorem dX4_tree_82 : decode cX4_tree 82 = .ok (.iload_n 1, 1) := by decide +kernel
theorem dX4_tree_83 : decode cX4_tree 83 = .ok (.aaload, 1) := by decide +kernel
theorem dX4_tree_84 : decode cX4_tree 84 = .ok (.invokevirtual 86, 3) := by decide +kernel
theorem dX4_tree_87 : decode cX4_tree 87 = .ok (.iastore, 1) := by decide +kernel
theorem dX4_tree_88 : decode cX4_tree 88 = .ok (.aload_n 0, 1) := by decide +kernel
theorem dX4_tree_89 : decode cX4_tree 89 = .ok (.getfield 26, 3) := by decide +kernel
theorem dX4_tree_92 : decode cX4_tree 92 = .ok (.iload_n 1, 1) := by decide +kernel
theorem dX4_tree_93 : decode cX4_tree 93 = .ok (.dup2, 1) := by decide +kernel
theorem dX4_tree_94 : decode cX4_tree 94 = .ok (.iaload, 1) := by decide +kernel
theorem dX4_tree_95 : decode cX4_tree 95 = .ok (.iload_n 3, 1) := by decide +kernel
theorem dX4_tree_96 : decode cX4_tree 96 = .ok (.iadd, 1) := by decide +kernel
theorem dX4_tree_97 : decode cX4_tree 97 = .ok (.iastore, 1) := by decide +kernel
theorem dX4_tree_98 : decode cX4_tree 98 = .ok (.aload_n 0, 1) := by decide +kernel
theorem dX4_tree_99 : decode cX4_tree 99 = .ok (.aload_n 0, 1) := by decide +kernel
theorem dX4_tree_100 : decode cX4_tree 100 = .ok (.getfield 59, 3) := by decide +kernel
theorem dX4_tree_103 : decode cX4_tree 103 = .ok (.ifCond .ne 14, 3) := by decide +kernel
theorem dX4_tree_106 : decode cX4_tree 106 = .ok (.aload_n 0, 1) := by decide +kernel
theorem dX4_tree_107 : decode cX4_tree 107 = .ok (.getfield 26, 3) := by decide +kernel
theorem dX4_tree_110 : decode cX4_tree 110 = .ok (.iload_n 1, 1) := by decide +kernel
theorem dX4_tree_111 : decode cX4_tree 111 = .ok (.iaload, 1) := by decide +kernel
theorem dX4_tree_112 : decode cX4_tree 112 = .ok (.ldc 90, 2) := by decide +kernel
theorem dX4_tree_114 : decode cX4_tree 114 = .ok (.if_icmp .le 7, 3) := by decide +kernel
theorem dX4_tree_117 : decode cX4_tree 117 = .ok (.iconst 1, 1) := by decide +kernel
theorem dX4_tree_118 : decode cX4_tree 118 = .ok (.goto 4, 3) := by decide +kernel
theorem dX4_tree_121 : decode cX4_tree 121 = .ok (.iconst 0, 1) := by decide +kernel
theorem dX4_tree_122 : decode cX4_tree 122 = .ok (.putfield 59, 3) := by decide +kernel
theorem dX4_tree_125 : decode cX4_tree 125 = .ok (.aload_n 0, 1) := by decide +kernel
theorem dX4_tree_126 : decode cX4_tree 126 = .ok (.getfield 50, 3) := by decide +kernel
theorem dX4_tree_129 : decode cX4_tree 129 = .ok (.iconst 4, 1) := by decide +kernel
theorem dX4_tree_130 : decode cX4_tree 130 = .ok (.if_icmp .ne 15, 3) := by decide +kernel
theorem dX4_tree_133 : decode cX4_tree 133 = .ok (.iload_n 1, 1) := by decide +kernel
theorem dX4_tree_134 : decode cX4_tree 134 = .ok (.iconst 1, 1) := by decide +kernel
theorem dX4_tree_135 : decode cX4_tree 135 = .ok (.iadd, 1) := by decide +kernel
theorem dX4_tree_136 : decode cX4_tree 136 = .ok (.aload_n 0, 1) := by decide +kernel
theorem dX4_tree_137 : decode cX4_tree 137 = .ok (.getfield 56, 3) := by decide +kernel
theorem dX4_tree_140 : decode cX4_tree 140 = .ok (.if_icmp .ne 5, 3) := by decide +kernel
theorem dX4_tree_143 : decode cX4_tree 143 = .ok (.iload_n 3, 1) := by decide +kernel
theorem dX4_tree_144 : decode cX4_tree 144 = .ok (.ireturn, 1) := by decide +kernel
theorem dX4_tree_145 : decode cX4_tree 145 = .ok (.iconst 0, 1) := by decide +kernel
theorem dX4_tree_146 : decode cX4_tree 146 = .ok (.istore 4, 2) := by decide +kernel
theorem dX4_tree_148 : decode cX4_tree 148 = .ok (.iconst 0, 1) := by decide +kernel
theorem dX4_tree_149 : decode cX4_tree 149 = .ok (.istore 5, 2) := by decide +kernel
theorem dX4_tree_151 : decode cX4_tree 151 = .ok (.iload 5, 2) := by decide +kernel
theorem dX4_tree_153 : decode cX4_tree 153 = .ok (.iload_n 3, 1) := by decide +kernel
theorem dX4_tree_154 : decode cX4_tree 154 = .ok (.if_icmp .ge 114, 3) := by decide +kernel
theorem dX4_tree_157 : decode cX4_tree 157 = .ok (.aload_n 0, 1) := by decide +kernel
theorem dX4_tree_158 : decode cX4_tree 158 = .ok (.getfield 59, 3) := by decide +kernel
theorem dX4_tree_161 : decode cX4_tree 161 = .ok (.ifCond .ne 107, 3) := by decide +kernel
theorem dX4_tree_164 : decode cX4_tree 164 = .ok (.aload_n 0, 1) := by decide +kernel
theorem dX4_tree_165 : decode cX4_tree 165 = .ok (.getfield 13, 3) := by decide +kernel
theorem dX4_tree_168 : decode cX4_tree 168 = .ok (.iload_n 1, 1) := by decide +kernel
theorem dX4_tree_169 : decode cX4_tree 169 = .ok (.iconst 1, 1) := by decide +kernel
theorem dX4_tree_170 : decode cX4_tree 170 = .ok (.iadd, 1) := by decide +kernel
theorem dX4_tree_171 : decode cX4_tree 171 = .ok (.aaload, 1) := by decide +kernel
theorem dX4_tree_172 : decode cX4_tree 172 = .ok (.astore 6, 2) := by decide +kernel
theorem dX4_tree_174 : decode cX4_tree 174 = .ok (.aload 6, 2) := by decide +kernel
theorem dX4_tree_176 : decode cX4_tree 176 = .ok (.aload_n 0, 1) := by decide +kernel
theorem dX4_tree_177 : decode cX4_tree 177 = .ok (.getfield 13, 3) := by decide +kernel
theorem dX4_tree_180 : decode cX4_tree 180 = .ok (.iload_n 1, 1) := by decide +kernel
theorem dX4_tree_181 : decode cX4_tree 181 = .ok (.aaload, 1) := by decide +kernel
theorem dX4_tree_182 : decode cX4_tree 182 = .ok (.invokevirtual 69, 3) := by decide +kernel
theorem dX4_tree_185 : decode cX4_tree 185 = .ok (.aload_n 0, 1) := by decide +kernel
theorem dX4_tree_186 : decode cX4_tree 186 = .ok (.getfield 45, 3) := by decide +kernel
theorem dX4_tree_189 : decode cX4_tree 189 = .ok (.aload 6, 2) := by decide +kernel
theorem dX4_tree_191 : decode cX4_tree 191 = .ok (.aload_n 2, 1) := by decide +kernel
theorem dX4_tree_192 : decode cX4_tree 192 = .ok (.iload 5, 2) := by decide +kernel
theorem dX4_tree_194 : decode cX4_tree 194 = .ok (.iaload, 1) := by decide +kernel
theorem dX4_tree_195 : decode cX4_tree 195 = .ok (.invokevirtual 91, 3) := by decide +kernel
theorem dX4_tree_198 : decode cX4_tree 198 = .ok (.iload_n 1, 1) := by decide +kernel
theorem dX4_tree_199 : decode cX4_tree 199 = .ok (.iconst 1, 1) := by decide +kernel
theorem dX4_tree_200 : decode cX4_tree 200 = .ok (.iadd, 1) := by decide +kernel
theorem dX4_tree_201 : decode cX4_tree 201 = .ok (.aload_n 0, 1) := by decide +kernel
theorem dX4_tree_202 : decode cX4_tree 202 = .ok (.getfield 56, 3) := by decide +kernel
theorem dX4_tree_205 : decode cX4_tree 205 = .ok (.if_icmp .eq 11, 3) := by decide +kernel
theorem dX4_tree_208 : decode cX4_tree 208 = .ok (.aload_n 0, 1) := by decide +kernel
theorem dX4_tree_209 : decode cX4_tree 209 = .ok (.getfield 50, 3) := by decide +kernel
theorem dX4_tree_212 : decode cX4_tree 212 = .ok (.iconst 3, 1) := by decide +kernel
theorem dX4_tree_213 : decode cX4_tree 213 = .ok (.if_icmp .ne 20, 3) := by decide +kernel
theorem dX4_tree_216 : decode cX4_tree 216 = .ok (.aload_n 0, 1) := by decide +kernel
theorem dX4_tree_217 : decode cX4_tree 217 = .ok (.getfield 22, 3) := by decide +kernel
theorem dX4_tree_220 : decode cX4_tree 220 = .ok (.iload_n 1, 1) := by decide +kernel
theorem dX4_tree_221 : decode cX4_tree 221 = .ok (.iconst 1, 1) := by decide +kernel
theorem dX4_tree_222 : decode cX4_tree 222 = .ok (.iadd, 1) := by decide +kernel
theorem dX4_tree_223 : decode cX4_tree 223 = .ok (.aload_n 0, 1) := by decide +kernel
theorem dX4_tree_224 : decode cX4_tree 224 = .ok (.getfield 45, 3) := by decide +kernel
theorem dX4_tree_227 : decode cX4_tree 227 = .ok (.aload 6, 2) := by decide +kernel
theorem dX4_tree_229 : decode cX4_tree 229 = .ok (.invokevirtual 86, 3) := by decide +kernel
theorem dX4_tree_232 : decode cX4_tree 232 = .ok (.iastore, 1) := by decide +kernel
theorem dX4_tree_233 : decode cX4_tree 233 = .ok (.aload_n 0, 1) := by decide +kernel
theorem dX4_tree_234 : decode cX4_tree 234 = .ok (.iload_n 1, 1) := by decide +kernel
theorem dX4_tree_235 : decode cX4_tree 235 = .ok (.iload 5, 2) := by decide +kernel
theorem dX4_tree_237 : decode cX4_tree 237 = .ok (.invokevirtual 95, 3) := by decide +kernel
theorem dX4_tree_240 : decode cX4_tree 240 = .ok (.istore 7, 2) := by decide +kernel
theorem dX4_tree_242 : decode cX4_tree 242 = .ok (.iload_n 1, 1) := by decide +kernel
theorem dX4_tree_243 : decode cX4_tree 243 = .ok (.ifCond .ne 12, 3) := by decide +kernel
theorem dX4_tree_246 : decode cX4_tree 246 = .ok (.aload_n 0, 1) := by decide +kernel
theorem dX4_tree_247 : decode cX4_tree 247 = .ok (.getfield 29, 3) := by decide +kernel
theorem dX4_tree_250 : decode cX4_tree 250 = .ok (.iload 5, 2) := by decide +kernel
theorem dX4_tree_252 : decode cX4_tree 252 = .ok (.iload 7, 2) := by decide +kernel
theorem dX4_tree_254 : decode cX4_tree 254 = .ok (.iastore, 1) := by decide +kernel
theorem dX4_tree_255 : decode cX4_tree 255 = .ok (.iload 4, 2) := by decide +kernel
theorem dX4_tree_257 : decode cX4_tree 257 = .ok (.iload 7, 2) := by decide +kernel
theorem dX4_tree_259 : decode cX4_tree 259 = .ok (.iadd, 1) := by decide +kernel
theorem dX4_tree_260 : decode cX4_tree 260 = .ok (.istore 4, 2) := by decide +kernel
theorem dX4_tree_262 : decode cX4_tree 262 = .ok (.iinc 5 1, 3) := by decide +kernel
theorem dX4_tree_265 : decode cX4_tree 265 = .ok (.goto (-114), 3) := by decide +kernel
theorem dX4_tree_268 : decode cX4_tree 268 = .ok (.iload 4, 2) := by decide +kernel
theorem dX4_tree_270 : decode cX4_tree 270 = .ok (.ireturn, 1) := by decide +kernel
set_option maxRecDepth 20000 in
theorem moX4_attempt_136 {o : Int32 × Hp} {F : Nat} {r_X4_attempt : Hp → Nat → Int32 → Int32 → Option (Int32 × Hp)} {r_X4_reply : Hp → Nat → Int32 → Option (Int32 × Hp)} {r_X4_goOn : Hp → Nat → Int32 → Option (Int32 × Hp)} {r_X4_branch : Hp → Nat → Int32 → Int32 → Option (Int32 × Hp)} {r_X4_tree : Hp → Nat → Int32 → Option (Int32 × Hp)} (mr_X4_attempt : ∀ {h : Hp} {x0 : Nat} {x1 : Int32} {x2 : Int32} {o : Int32 × Hp}, r_X4_attempt h x0 x1 x2 = some o → Le h o.2) (mr_X4_reply : ∀ {h : Hp} {x0 : Nat} {x1 : Int32} {o : Int32 × Hp}, r_X4_reply h x0 x1 = some o → Le h o.2) (mr_X4_goOn : ∀ {h : Hp} {x0 : Nat} {x1 : Int32} {o : Int32 × Hp}, r_X4_goOn h x0 x1 = some o → Le h o.2) (mr_X4_branch : ∀ {h : Hp} {x0 : Nat} {x1 : Int32} {x2 : Int32} {o : Int32 × Hp}, r_X4_branch h x0 x1 x2 = some o → Le h o.2) (mr_X4_tree : ∀ {h : Hp} {x0 : Nat} {x1 : Int32} {o : Int32 × Hp}, r_X4_tree h x0 x1 = some o → Le h o.2) {h : Hp} {t0 : Int32} (hE : sX4_attempt_136 F r_X4_attempt r_X4_reply r_X4_goOn r_X4_branch r_X4_tree h  t0 = some o) : Le h o.2 := by
  exact le_some2 hE
set_option maxRecDepth 20000 in
theorem moX4_attempt_124 {o : Int32 × Hp} {F : Nat} {r_X4_attempt : Hp → Nat → Int32 → Int32 → Option (Int32 × Hp)} {r_X4_reply : Hp → Nat → Int32 → Option (Int32 × Hp)} {r_X4_goOn : Hp → Nat → Int32 → Option (Int32 × Hp)} {r_X4_branch : Hp → Nat → Int32 → Int32 → Option (Int32 × Hp)} {r_X4_tree : Hp → Nat → Int32 → Option (Int32 × Hp)} (mr_X4_attempt : ∀ {h : Hp} {x0 : Nat} {x1 : Int32} {x2 : Int32} {o : Int32 × Hp}, r_X4_attempt h x0 x1 x2 = some o → Le h o.2) (mr_X4_reply : ∀ {h : Hp} {x0 : Nat} {x1 : Int32} {o : Int32 × Hp}, r_X4_reply h x0 x1 = some o → Le h o.2) (mr_X4_goOn : ∀ {h : Hp} {x0 : Nat} {x1 : Int32} {o : Int32 × Hp}, r_X4_goOn h x0 x1 = some o → Le h o.2) (mr_X4_branch : ∀ {h : Hp} {x0 : Nat} {x1 : Int32} {x2 : Int32} {o : Int32 × Hp}, r_X4_branch h x0 x1 x2 = some o → Le h o.2) (mr_X4_tree : ∀ {h : Hp} {x0 : Nat} {x1 : Int32} {o : Int32 × Hp}, r_X4_tree h x0 x1 = some o → Le h o.2) {h : Hp} {t0 : Int32} (hE : sX4_attempt_124 F r_X4_attempt r_X4_reply r_X4_goOn r_X4_branch r_X4_tree h  t0 = some o) : Le h o.2 := by
  rcases br_e hE with ⟨_, hE⟩ | ⟨_, hE⟩
  · exact moX4_attempt_136 mr_X4_attempt mr_X4_reply mr_X4_goOn mr_X4_branch mr_X4_tree hE
  · exact moX4_attempt_136 mr_X4_attempt mr_X4_reply mr_X4_goOn mr_X4_branch mr_X4_tree hE
set_option maxRecDepth 20000 in
theorem moX4_attempt_123 {o : Int32 × Hp} {F : Nat} {r_X4_attempt : Hp → Nat → Int32 → Int32 → Option (Int32 × Hp)} {r_X4_reply : Hp → Nat → Int32 → Option (Int32 × Hp)} {r_X4_goOn : Hp → Nat → Int32 → Option (Int32 × Hp)} {r_X4_branch : Hp → Nat → Int32 → Int32 → Option (Int32 × Hp)} {r_X4_tree : Hp → Nat → Int32 → Option (Int32 × Hp)} (mr_X4_attempt : ∀ {h : Hp} {x0 : Nat} {x1 : Int32} {x2 : Int32} {o : Int32 × Hp}, r_X4_attempt h x0 x1 x2 = some o → Le h o.2) (mr_X4_reply : ∀ {h : Hp} {x0 : Nat} {x1 : Int32} {o : Int32 × Hp}, r_X4_reply h x0 x1 = some o → Le h o.2) (mr_X4_goOn : ∀ {h : Hp} {x0 : Nat} {x1 : Int32} {o : Int32 × Hp}, r_X4_goOn h x0 x1 = some o → Le h o.2) (mr_X4_branch : ∀ {h : Hp} {x0 : Nat} {x1 : Int32} {x2 : Int32} {o : Int32 × Hp}, r_X4_branch h x0 x1 x2 = some o → Le h o.2) (mr_X4_tree : ∀ {h : Hp} {x0 : Nat} {x1 : Int32} {o : Int32 × Hp}, r_X4_tree h x0 x1 = some o → Le h o.2) {h : Hp} (hE : sX4_attempt_123 F r_X4_attempt r_X4_reply r_X4_goOn r_X4_branch r_X4_tree h  = some o) : Le h o.2 := by
  exact moX4_attempt_124 mr_X4_attempt mr_X4_reply mr_X4_goOn mr_X4_branch mr_X4_tree hE
set_option maxRecDepth 20000 in
theorem moX4_attempt_98 {o : Int32 × Hp} {F : Nat} {r_X4_attempt : Hp → Nat → Int32 → Int32 → Option (Int32 × Hp)} {r_X4_reply : Hp → Nat → Int32 → Option (Int32 × Hp)} {r_X4_goOn : Hp → Nat → Int32 → Option (Int32 × Hp)} {r_X4_branch : Hp → Nat → Int32 → Int32 → Option (Int32 × Hp)} {r_X4_tree : Hp → Nat → Int32 → Option (Int32 × Hp)} (mr_X4_attempt : ∀ {h : Hp} {x0 : Nat} {x1 : Int32} {x2 : Int32} {o : Int32 × Hp}, r_X4_attempt h x0 x1 x2 = some o → Le h o.2) (mr_X4_reply : ∀ {h : Hp} {x0 : Nat} {x1 : Int32} {o : Int32 × Hp}, r_X4_reply h x0 x1 = some o → Le h o.2) (mr_X4_goOn : ∀ {h : Hp} {x0 : Nat} {x1 : Int32} {o : Int32 × Hp}, r_X4_goOn h x0 x1 = some o → Le h o.2) (mr_X4_branch : ∀ {h : Hp} {x0 : Nat} {x1 : Int32} {x2 : Int32} {o : Int32 × Hp}, r_X4_branch h x0 x1 x2 = some o → Le h o.2) (mr_X4_tree : ∀ {h : Hp} {x0 : Nat} {x1 : Int32} {o : Int32 × Hp}, r_X4_tree h x0 x1 = some o → Le h o.2) {h : Hp} (hE : sX4_attempt_98 F r_X4_attempt r_X4_reply r_X4_goOn r_X4_branch r_X4_tree h  = some o) : Le h o.2 := by
  exact moX4_attempt_124 mr_X4_attempt mr_X4_reply mr_X4_goOn mr_X4_branch mr_X4_tree hE
set_option maxRecDepth 20000 in
theorem moX4_attempt_74 {o : Int32 × Hp} {F : Nat} {r_X4_attempt : Hp → Nat → Int32 → Int32 → Option (Int32 × Hp)} {r_X4_reply : Hp → Nat → Int32 → Option (Int32 × Hp)} {r_X4_goOn : Hp → Nat → Int32 → Option (Int32 × Hp)} {r_X4_branch : Hp → Nat → Int32 → Int32 → Option (Int32 × Hp)} {r_X4_tree : Hp → Nat → Int32 → Option (Int32 × Hp)} (mr_X4_attempt : ∀ {h : Hp} {x0 : Nat} {x1 : Int32} {x2 : Int32} {o : Int32 × Hp}, r_X4_attempt h x0 x1 x2 = some o → Le h o.2) (mr_X4_reply : ∀ {h : Hp} {x0 : Nat} {x1 : Int32} {o : Int32 × Hp}, r_X4_reply h x0 x1 = some o → Le h o.2) (mr_X4_goOn : ∀ {h : Hp} {x0 : Nat} {x1 : Int32} {o : Int32 × Hp}, r_X4_goOn h x0 x1 = some o → Le h o.2) (mr_X4_branch : ∀ {h : Hp} {x0 : Nat} {x1 : Int32} {x2 : Int32} {o : Int32 × Hp}, r_X4_branch h x0 x1 x2 = some o → Le h o.2) (mr_X4_tree : ∀ {h : Hp} {x0 : Nat} {x1 : Int32} {o : Int32 × Hp}, r_X4_tree h x0 x1 = some o → Le h o.2) {h : Hp} {x0 : Nat} {x1 : Int32} {x3 : Int32} {x4 : Int32} (hE : sX4_attempt_74 F r_X4_attempt r_X4_reply r_X4_goOn r_X4_branch r_X4_tree h x0 x1 x3 x4 = some o) : Le h o.2 := by
  obtain ⟨r_1, er_1, hE⟩ := cl_e hE
  obtain ⟨g_2, hE⟩ := gd_e hE
  rcases br_e hE with ⟨_, hE⟩ | ⟨_, hE⟩
  · rcases br_e hE with ⟨_, hE⟩ | ⟨_, hE⟩
    · exact moX4_attempt_98 mr_X4_attempt mr_X4_reply mr_X4_goOn mr_X4_branch mr_X4_tree hE
    · rcases br_e hE with ⟨_, hE⟩ | ⟨_, hE⟩
      · exact moX4_attempt_124 mr_X4_attempt mr_X4_reply mr_X4_goOn mr_X4_branch mr_X4_tree hE
      · exact moX4_attempt_98 mr_X4_attempt mr_X4_reply mr_X4_goOn mr_X4_branch mr_X4_tree hE
  · rcases br_e hE with ⟨_, hE⟩ | ⟨_, hE⟩
    · obtain ⟨o_5, eo_5, hE⟩ := cl_e hE
      refine (moX4_isGoal eo_5).tr ?_
      rcases br_e hE with ⟨_, hE⟩ | ⟨_, hE⟩
      · exact moX4_attempt_123 mr_X4_attempt mr_X4_reply mr_X4_goOn mr_X4_branch mr_X4_tree hE
      · exact moX4_attempt_124 mr_X4_attempt mr_X4_reply mr_X4_goOn mr_X4_branch mr_X4_tree hE
    · exact moX4_attempt_123 mr_X4_attempt mr_X4_reply mr_X4_goOn mr_X4_branch mr_X4_tree hE
set_option maxRecDepth 20000 in
theorem moX4_attempt_73 {o : Int32 × Hp} {F : Nat} {r_X4_attempt : Hp → Nat → Int32 → Int32 → Option (Int32 × Hp)} {r_X4_reply : Hp → Nat → Int32 → Option (Int32 × Hp)} {r_X4_goOn : Hp → Nat → Int32 → Option (Int32 × Hp)} {r_X4_branch : Hp → Nat → Int32 → Int32 → Option (Int32 × Hp)} {r_X4_tree : Hp → Nat → Int32 → Option (Int32 × Hp)} (mr_X4_attempt : ∀ {h : Hp} {x0 : Nat} {x1 : Int32} {x2 : Int32} {o : Int32 × Hp}, r_X4_attempt h x0 x1 x2 = some o → Le h o.2) (mr_X4_reply : ∀ {h : Hp} {x0 : Nat} {x1 : Int32} {o : Int32 × Hp}, r_X4_reply h x0 x1 = some o → Le h o.2) (mr_X4_goOn : ∀ {h : Hp} {x0 : Nat} {x1 : Int32} {o : Int32 × Hp}, r_X4_goOn h x0 x1 = some o → Le h o.2) (mr_X4_branch : ∀ {h : Hp} {x0 : Nat} {x1 : Int32} {x2 : Int32} {o : Int32 × Hp}, r_X4_branch h x0 x1 x2 = some o → Le h o.2) (mr_X4_tree : ∀ {h : Hp} {x0 : Nat} {x1 : Int32} {o : Int32 × Hp}, r_X4_tree h x0 x1 = some o → Le h o.2) {h : Hp} {x0 : Nat} {x1 : Int32} {x3 : Int32} {x4 : Int32} {t0 : Int32} {t1 : Int32} {t2 : Nat} (hE : sX4_attempt_73 F r_X4_attempt r_X4_reply r_X4_goOn r_X4_branch r_X4_tree h x0 x1 x3 x4 t0 t1 t2 = some o) : Le h o.2 := by
  obtain ⟨g_1, hE⟩ := gd_e hE
  obtain ⟨h_2, eh_2, hE⟩ := nm_e2 hE
  refine (le_I eh_2).tr ?_
  exact moX4_attempt_74 mr_X4_attempt mr_X4_reply mr_X4_goOn mr_X4_branch mr_X4_tree hE
set_option maxRecDepth 20000 in
theorem moX4_attempt_31 {o : Int32 × Hp} {F : Nat} {r_X4_attempt : Hp → Nat → Int32 → Int32 → Option (Int32 × Hp)} {r_X4_reply : Hp → Nat → Int32 → Option (Int32 × Hp)} {r_X4_goOn : Hp → Nat → Int32 → Option (Int32 × Hp)} {r_X4_branch : Hp → Nat → Int32 → Int32 → Option (Int32 × Hp)} {r_X4_tree : Hp → Nat → Int32 → Option (Int32 × Hp)} (mr_X4_attempt : ∀ {h : Hp} {x0 : Nat} {x1 : Int32} {x2 : Int32} {o : Int32 × Hp}, r_X4_attempt h x0 x1 x2 = some o → Le h o.2) (mr_X4_reply : ∀ {h : Hp} {x0 : Nat} {x1 : Int32} {o : Int32 × Hp}, r_X4_reply h x0 x1 = some o → Le h o.2) (mr_X4_goOn : ∀ {h : Hp} {x0 : Nat} {x1 : Int32} {o : Int32 × Hp}, r_X4_goOn h x0 x1 = some o → Le h o.2) (mr_X4_branch : ∀ {h : Hp} {x0 : Nat} {x1 : Int32} {x2 : Int32} {o : Int32 × Hp}, r_X4_branch h x0 x1 x2 = some o → Le h o.2) (mr_X4_tree : ∀ {h : Hp} {x0 : Nat} {x1 : Int32} {o : Int32 × Hp}, r_X4_tree h x0 x1 = some o → Le h o.2) {h : Hp} {x0 : Nat} {x1 : Int32} {x2 : Int32} {x3 : Int32} {t0 : Int32} (hE : sX4_attempt_31 F r_X4_attempt r_X4_reply r_X4_goOn r_X4_branch r_X4_tree h x0 x1 x2 x3 t0 = some o) : Le h o.2 := by
  rcases br_e hE with ⟨_, hE⟩ | ⟨_, hE⟩
  · obtain ⟨r_2, er_2, hE⟩ := cl_e hE
    rcases br_e hE with ⟨_, hE⟩ | ⟨_, hE⟩
    · obtain ⟨r_4, er_4, hE⟩ := cl_e hE
      obtain ⟨r_5, er_5, hE⟩ := cl_e hE
      obtain ⟨g_6, hE⟩ := gd_e hE
      obtain ⟨r_7, er_7, hE⟩ := cl_e hE
      obtain ⟨r_8, er_8, hE⟩ := cl_e hE
      obtain ⟨g_9, hE⟩ := gd_e hE
      obtain ⟨r_10, er_10, hE⟩ := cl_e hE
      obtain ⟨o_11, eo_11, hE⟩ := cl_e hE
      refine (moX5_collect eo_11).tr ?_
      exact moX4_attempt_73 mr_X4_attempt mr_X4_reply mr_X4_goOn mr_X4_branch mr_X4_tree hE
    · exact moX4_attempt_73 mr_X4_attempt mr_X4_reply mr_X4_goOn mr_X4_branch mr_X4_tree hE
  · exact moX4_attempt_74 mr_X4_attempt mr_X4_reply mr_X4_goOn mr_X4_branch mr_X4_tree hE
set_option maxRecDepth 20000 in
theorem moX4_attempt_15 {o : Int32 × Hp} {F : Nat} {r_X4_attempt : Hp → Nat → Int32 → Int32 → Option (Int32 × Hp)} {r_X4_reply : Hp → Nat → Int32 → Option (Int32 × Hp)} {r_X4_goOn : Hp → Nat → Int32 → Option (Int32 × Hp)} {r_X4_branch : Hp → Nat → Int32 → Int32 → Option (Int32 × Hp)} {r_X4_tree : Hp → Nat → Int32 → Option (Int32 × Hp)} (mr_X4_attempt : ∀ {h : Hp} {x0 : Nat} {x1 : Int32} {x2 : Int32} {o : Int32 × Hp}, r_X4_attempt h x0 x1 x2 = some o → Le h o.2) (mr_X4_reply : ∀ {h : Hp} {x0 : Nat} {x1 : Int32} {o : Int32 × Hp}, r_X4_reply h x0 x1 = some o → Le h o.2) (mr_X4_goOn : ∀ {h : Hp} {x0 : Nat} {x1 : Int32} {o : Int32 × Hp}, r_X4_goOn h x0 x1 = some o → Le h o.2) (mr_X4_branch : ∀ {h : Hp} {x0 : Nat} {x1 : Int32} {x2 : Int32} {o : Int32 × Hp}, r_X4_branch h x0 x1 x2 = some o → Le h o.2) (mr_X4_tree : ∀ {h : Hp} {x0 : Nat} {x1 : Int32} {o : Int32 × Hp}, r_X4_tree h x0 x1 = some o → Le h o.2) {h : Hp} {x0 : Nat} {x1 : Int32} {x2 : Int32} {t0 : Int32} (hE : sX4_attempt_15 F r_X4_attempt r_X4_reply r_X4_goOn r_X4_branch r_X4_tree h x0 x1 x2 t0 = some o) : Le h o.2 := by
  rcases br_e hE with ⟨_, hE⟩ | ⟨_, hE⟩
  · exact moX4_attempt_31 mr_X4_attempt mr_X4_reply mr_X4_goOn mr_X4_branch mr_X4_tree hE
  · obtain ⟨o_2, eo_2, hE⟩ := cl_e hE
    refine (mr_X4_tree eo_2).tr ?_
    exact moX4_attempt_31 mr_X4_attempt mr_X4_reply mr_X4_goOn mr_X4_branch mr_X4_tree hE
set_option maxRecDepth 20000 in
theorem mooX4_attempt {o : Int32 × Hp} {F : Nat} {r_X4_attempt : Hp → Nat → Int32 → Int32 → Option (Int32 × Hp)} {r_X4_reply : Hp → Nat → Int32 → Option (Int32 × Hp)} {r_X4_goOn : Hp → Nat → Int32 → Option (Int32 × Hp)} {r_X4_branch : Hp → Nat → Int32 → Int32 → Option (Int32 × Hp)} {r_X4_tree : Hp → Nat → Int32 → Option (Int32 × Hp)} (mr_X4_attempt : ∀ {h : Hp} {x0 : Nat} {x1 : Int32} {x2 : Int32} {o : Int32 × Hp}, r_X4_attempt h x0 x1 x2 = some o → Le h o.2) (mr_X4_reply : ∀ {h : Hp} {x0 : Nat} {x1 : Int32} {o : Int32 × Hp}, r_X4_reply h x0 x1 = some o → Le h o.2) (mr_X4_goOn : ∀ {h : Hp} {x0 : Nat} {x1 : Int32} {o : Int32 × Hp}, r_X4_goOn h x0 x1 = some o → Le h o.2) (mr_X4_branch : ∀ {h : Hp} {x0 : Nat} {x1 : Int32} {x2 : Int32} {o : Int32 × Hp}, r_X4_branch h x0 x1 x2 = some o → Le h o.2) (mr_X4_tree : ∀ {h : Hp} {x0 : Nat} {x1 : Int32} {o : Int32 × Hp}, r_X4_tree h x0 x1 = some o → Le h o.2) {h : Hp} {x0 : Nat} {x1 : Int32} {x2 : Int32} (hE : oX4_attempt F r_X4_attempt r_X4_reply r_X4_goOn r_X4_branch r_X4_tree h x0 x1 x2 = some o) : Le h o.2 := by
  rcases br_e hE with ⟨_, hE⟩ | ⟨_, hE⟩
  · exact moX4_attempt_15 mr_X4_attempt mr_X4_reply mr_X4_goOn mr_X4_branch mr_X4_tree hE
  · exact moX4_attempt_15 mr_X4_attempt mr_X4_reply mr_X4_goOn mr_X4_branch mr_X4_tree hE
set_option maxRecDepth 20000 in
theorem bX4_attempt_136 {p : Program} {l : Launch} {e : Env} {s : State} {m : MethodId} {args : Array Value} {below : List Frame} {meth : Method} {c : Code} {X : Ec} {h0 : Hp} {o : Int32 × Hp} {d : Nat} {r_X4_attempt : Hp → Nat → Int32 → Int32 → Option (Int32 × Hp)} {r_X4_reply : Hp → Nat → Int32 → Option (Int32 × Hp)} {r_X4_goOn : Hp → Nat → Int32 → Option (Int32 × Hp)} {r_X4_branch : Hp → Nat → Int32 → Int32 → Option (Int32 × Hp)} {r_X4_tree : Hp → Nat → Int32 → Option (Int32 × Hp)} {F : Nat} (C : Cx X p s m args meth c RX4 cX4_attempt 6 (some .int) "attempt") (hr_X4_attempt : ∀ {h : Hp} {x0 : Nat} {x1 : Int32} {x2 : Int32} {o : Int32 × Hp}, hK h x0 = 4 → r_X4_attempt h x0 x1 x2 = some o → MetI l yX4_attempt cX4_attempt 6 (some .int)  (d + 6) (d * 27 + 161) X [.ref x0, .int x1, .int x2] h o) (hr_X4_reply : ∀ {h : Hp} {x0 : Nat} {x1 : Int32} {o : Int32 × Hp}, hK h x0 = 4 → r_X4_reply h x0 x1 = some o → MetI l yX4_reply cX4_reply 3 (some .int)  (d + 6) (d * 27 + 161) X [.ref x0, .int x1] h o) (hr_X4_goOn : ∀ {h : Hp} {x0 : Nat} {x1 : Int32} {o : Int32 × Hp}, hK h x0 = 4 → r_X4_goOn h x0 x1 = some o → MetI l yX4_goOn cX4_goOn 3 (some .int)  (d + 6) (d * 27 + 161) X [.ref x0, .int x1] h o) (hr_X4_branch : ∀ {h : Hp} {x0 : Nat} {x1 : Int32} {x2 : Int32} {o : Int32 × Hp}, hK h x0 = 4 → r_X4_branch h x0 x1 x2 = some o → MetI l yX4_branch cX4_branch 3 (some .int)  (d + 6) (d * 27 + 161) X [.ref x0, .int x1, .int x2] h o) (hr_X4_tree : ∀ {h : Hp} {x0 : Nat} {x1 : Int32} {o : Int32 × Hp}, hK h x0 = 4 → r_X4_tree h x0 x1 = some o → MetI l yX4_tree cX4_tree 8 (some .int)  (d + 6) (d * 27 + 161) X [.ref x0, .int x1] h o) (mr_X4_attempt : ∀ {h : Hp} {x0 : Nat} {x1 : Int32} {x2 : Int32} {o : Int32 × Hp}, r_X4_attempt h x0 x1 x2 = some o → Le h o.2) (mr_X4_reply : ∀ {h : Hp} {x0 : Nat} {x1 : Int32} {o : Int32 × Hp}, r_X4_reply h x0 x1 = some o → Le h o.2) (mr_X4_goOn : ∀ {h : Hp} {x0 : Nat} {x1 : Int32} {o : Int32 × Hp}, r_X4_goOn h x0 x1 = some o → Le h o.2) (mr_X4_branch : ∀ {h : Hp} {x0 : Nat} {x1 : Int32} {x2 : Int32} {o : Int32 × Hp}, r_X4_branch h x0 x1 x2 = some o → Le h o.2) (mr_X4_tree : ∀ {h : Hp} {x0 : Nat} {x1 : Int32} {o : Int32 × Hp}, r_X4_tree h x0 x1 = some o → Le h o.2) {h : Hp} {t0 : Int32} {H : Heap} {locs : List Loc} (hkm : Km h0 h) (hW : Wx X h H) (hZ : va_S (aA (eB X)) s.heap H locs) (ls : Array Slot) (hl : lv_has ls 6 []) (hE : sX4_attempt_136 F r_X4_attempt r_X4_reply r_X4_goOn r_X4_branch r_X4_tree h  t0 = some o) : W p l e (rm (d + 1 + 6) ((d + 1) * 27 + 161)) s m args below meth c H locs 0 0 (MQ below (QI X h0 o.1 o.2) args s 0 0 (aA (eB X))) (F0 m 136 ls [.int t0]) := by
  exact x_iret C rfl rfl hW hZ hkm hE dX4_attempt_136
set_option maxRecDepth 20000 in
theorem bX4_attempt_124 {p : Program} {l : Launch} {e : Env} {s : State} {m : MethodId} {args : Array Value} {below : List Frame} {meth : Method} {c : Code} {X : Ec} {h0 : Hp} {o : Int32 × Hp} {d : Nat} {r_X4_attempt : Hp → Nat → Int32 → Int32 → Option (Int32 × Hp)} {r_X4_reply : Hp → Nat → Int32 → Option (Int32 × Hp)} {r_X4_goOn : Hp → Nat → Int32 → Option (Int32 × Hp)} {r_X4_branch : Hp → Nat → Int32 → Int32 → Option (Int32 × Hp)} {r_X4_tree : Hp → Nat → Int32 → Option (Int32 × Hp)} {F : Nat} (C : Cx X p s m args meth c RX4 cX4_attempt 6 (some .int) "attempt") (hr_X4_attempt : ∀ {h : Hp} {x0 : Nat} {x1 : Int32} {x2 : Int32} {o : Int32 × Hp}, hK h x0 = 4 → r_X4_attempt h x0 x1 x2 = some o → MetI l yX4_attempt cX4_attempt 6 (some .int)  (d + 6) (d * 27 + 161) X [.ref x0, .int x1, .int x2] h o) (hr_X4_reply : ∀ {h : Hp} {x0 : Nat} {x1 : Int32} {o : Int32 × Hp}, hK h x0 = 4 → r_X4_reply h x0 x1 = some o → MetI l yX4_reply cX4_reply 3 (some .int)  (d + 6) (d * 27 + 161) X [.ref x0, .int x1] h o) (hr_X4_goOn : ∀ {h : Hp} {x0 : Nat} {x1 : Int32} {o : Int32 × Hp}, hK h x0 = 4 → r_X4_goOn h x0 x1 = some o → MetI l yX4_goOn cX4_goOn 3 (some .int)  (d + 6) (d * 27 + 161) X [.ref x0, .int x1] h o) (hr_X4_branch : ∀ {h : Hp} {x0 : Nat} {x1 : Int32} {x2 : Int32} {o : Int32 × Hp}, hK h x0 = 4 → r_X4_branch h x0 x1 x2 = some o → MetI l yX4_branch cX4_branch 3 (some .int)  (d + 6) (d * 27 + 161) X [.ref x0, .int x1, .int x2] h o) (hr_X4_tree : ∀ {h : Hp} {x0 : Nat} {x1 : Int32} {o : Int32 × Hp}, hK h x0 = 4 → r_X4_tree h x0 x1 = some o → MetI l yX4_tree cX4_tree 8 (some .int)  (d + 6) (d * 27 + 161) X [.ref x0, .int x1] h o) (mr_X4_attempt : ∀ {h : Hp} {x0 : Nat} {x1 : Int32} {x2 : Int32} {o : Int32 × Hp}, r_X4_attempt h x0 x1 x2 = some o → Le h o.2) (mr_X4_reply : ∀ {h : Hp} {x0 : Nat} {x1 : Int32} {o : Int32 × Hp}, r_X4_reply h x0 x1 = some o → Le h o.2) (mr_X4_goOn : ∀ {h : Hp} {x0 : Nat} {x1 : Int32} {o : Int32 × Hp}, r_X4_goOn h x0 x1 = some o → Le h o.2) (mr_X4_branch : ∀ {h : Hp} {x0 : Nat} {x1 : Int32} {x2 : Int32} {o : Int32 × Hp}, r_X4_branch h x0 x1 x2 = some o → Le h o.2) (mr_X4_tree : ∀ {h : Hp} {x0 : Nat} {x1 : Int32} {o : Int32 × Hp}, r_X4_tree h x0 x1 = some o → Le h o.2) {h : Hp} {t0 : Int32} {H : Heap} {locs : List Loc} (hkm : Km h0 h) (hW : Wx X h H) (hZ : va_S (aA (eB X)) s.heap H locs) (ls : Array Slot) (hl : lv_has ls 6 []) (hE : sX4_attempt_124 F r_X4_attempt r_X4_reply r_X4_goOn r_X4_branch r_X4_tree h  t0 = some o) : W p l e (rm (d + 1 + 6) ((d + 1) * 27 + 161)) s m args below meth c H locs 0 0 (MQ below (QI X h0 o.1 o.2) args s 0 0 (aA (eB X))) (F0 m 124 ls [.int t0]) := by
  refine lv_istore (lv' := [(5, .int t0)]) C.1 C.2.1 dX4_attempt_124 hl (by decide) rfl (fun ls hl => ?_)
  refine lv_iload C.1 C.2.1 dX4_attempt_126 (lv_at hl 0 rfl) ?_
  refine lv_if_eq (tgt := 135) C.1 C.2.1 dX4_attempt_128 (by decide) (fun c_1 => ?_) (fun c_1 => ?_)
  · have hE := br_p hE c_1
    refine lv_iconst (v := (0 : Int32)) C.1 C.2.1 dX4_attempt_135 (by decide) ?_
    exact bX4_attempt_136 C hr_X4_attempt hr_X4_reply hr_X4_goOn hr_X4_branch hr_X4_tree mr_X4_attempt mr_X4_reply mr_X4_goOn mr_X4_branch mr_X4_tree hkm hW hZ _ (lv_sub hl [] rfl) hE
  · have hE := br_n hE c_1
    refine lv_iconst (v := (1 : Int32)) C.1 C.2.1 dX4_attempt_131 (by decide) ?_
    refine lv_goto (tgt := 136) C.1 C.2.1 dX4_attempt_132 (by decide) ?_
    exact bX4_attempt_136 C hr_X4_attempt hr_X4_reply hr_X4_goOn hr_X4_branch hr_X4_tree mr_X4_attempt mr_X4_reply mr_X4_goOn mr_X4_branch mr_X4_tree hkm hW hZ _ (lv_sub hl [] rfl) hE
set_option maxRecDepth 20000 in
theorem bX4_attempt_123 {p : Program} {l : Launch} {e : Env} {s : State} {m : MethodId} {args : Array Value} {below : List Frame} {meth : Method} {c : Code} {X : Ec} {h0 : Hp} {o : Int32 × Hp} {d : Nat} {r_X4_attempt : Hp → Nat → Int32 → Int32 → Option (Int32 × Hp)} {r_X4_reply : Hp → Nat → Int32 → Option (Int32 × Hp)} {r_X4_goOn : Hp → Nat → Int32 → Option (Int32 × Hp)} {r_X4_branch : Hp → Nat → Int32 → Int32 → Option (Int32 × Hp)} {r_X4_tree : Hp → Nat → Int32 → Option (Int32 × Hp)} {F : Nat} (C : Cx X p s m args meth c RX4 cX4_attempt 6 (some .int) "attempt") (hr_X4_attempt : ∀ {h : Hp} {x0 : Nat} {x1 : Int32} {x2 : Int32} {o : Int32 × Hp}, hK h x0 = 4 → r_X4_attempt h x0 x1 x2 = some o → MetI l yX4_attempt cX4_attempt 6 (some .int)  (d + 6) (d * 27 + 161) X [.ref x0, .int x1, .int x2] h o) (hr_X4_reply : ∀ {h : Hp} {x0 : Nat} {x1 : Int32} {o : Int32 × Hp}, hK h x0 = 4 → r_X4_reply h x0 x1 = some o → MetI l yX4_reply cX4_reply 3 (some .int)  (d + 6) (d * 27 + 161) X [.ref x0, .int x1] h o) (hr_X4_goOn : ∀ {h : Hp} {x0 : Nat} {x1 : Int32} {o : Int32 × Hp}, hK h x0 = 4 → r_X4_goOn h x0 x1 = some o → MetI l yX4_goOn cX4_goOn 3 (some .int)  (d + 6) (d * 27 + 161) X [.ref x0, .int x1] h o) (hr_X4_branch : ∀ {h : Hp} {x0 : Nat} {x1 : Int32} {x2 : Int32} {o : Int32 × Hp}, hK h x0 = 4 → r_X4_branch h x0 x1 x2 = some o → MetI l yX4_branch cX4_branch 3 (some .int)  (d + 6) (d * 27 + 161) X [.ref x0, .int x1, .int x2] h o) (hr_X4_tree : ∀ {h : Hp} {x0 : Nat} {x1 : Int32} {o : Int32 × Hp}, hK h x0 = 4 → r_X4_tree h x0 x1 = some o → MetI l yX4_tree cX4_tree 8 (some .int)  (d + 6) (d * 27 + 161) X [.ref x0, .int x1] h o) (mr_X4_attempt : ∀ {h : Hp} {x0 : Nat} {x1 : Int32} {x2 : Int32} {o : Int32 × Hp}, r_X4_attempt h x0 x1 x2 = some o → Le h o.2) (mr_X4_reply : ∀ {h : Hp} {x0 : Nat} {x1 : Int32} {o : Int32 × Hp}, r_X4_reply h x0 x1 = some o → Le h o.2) (mr_X4_goOn : ∀ {h : Hp} {x0 : Nat} {x1 : Int32} {o : Int32 × Hp}, r_X4_goOn h x0 x1 = some o → Le h o.2) (mr_X4_branch : ∀ {h : Hp} {x0 : Nat} {x1 : Int32} {x2 : Int32} {o : Int32 × Hp}, r_X4_branch h x0 x1 x2 = some o → Le h o.2) (mr_X4_tree : ∀ {h : Hp} {x0 : Nat} {x1 : Int32} {o : Int32 × Hp}, r_X4_tree h x0 x1 = some o → Le h o.2) {h : Hp} {H : Heap} {locs : List Loc} (hkm : Km h0 h) (hW : Wx X h H) (hZ : va_S (aA (eB X)) s.heap H locs) (ls : Array Slot) (hl : lv_has ls 6 []) (hE : sX4_attempt_123 F r_X4_attempt r_X4_reply r_X4_goOn r_X4_branch r_X4_tree h  = some o) : W p l e (rm (d + 1 + 6) ((d + 1) * 27 + 161)) s m args below meth c H locs 0 0 (MQ below (QI X h0 o.1 o.2) args s 0 0 (aA (eB X))) (F0 m 123 ls []) := by
  refine lv_iconst (v := (0 : Int32)) C.1 C.2.1 dX4_attempt_123 (by decide) ?_
  exact bX4_attempt_124 C hr_X4_attempt hr_X4_reply hr_X4_goOn hr_X4_branch hr_X4_tree mr_X4_attempt mr_X4_reply mr_X4_goOn mr_X4_branch mr_X4_tree hkm hW hZ _ (lv_sub hl [] rfl) hE
set_option maxRecDepth 20000 in
theorem bX4_attempt_98 {p : Program} {l : Launch} {e : Env} {s : State} {m : MethodId} {args : Array Value} {below : List Frame} {meth : Method} {c : Code} {X : Ec} {h0 : Hp} {o : Int32 × Hp} {d : Nat} {r_X4_attempt : Hp → Nat → Int32 → Int32 → Option (Int32 × Hp)} {r_X4_reply : Hp → Nat → Int32 → Option (Int32 × Hp)} {r_X4_goOn : Hp → Nat → Int32 → Option (Int32 × Hp)} {r_X4_branch : Hp → Nat → Int32 → Int32 → Option (Int32 × Hp)} {r_X4_tree : Hp → Nat → Int32 → Option (Int32 × Hp)} {F : Nat} (C : Cx X p s m args meth c RX4 cX4_attempt 6 (some .int) "attempt") (hr_X4_attempt : ∀ {h : Hp} {x0 : Nat} {x1 : Int32} {x2 : Int32} {o : Int32 × Hp}, hK h x0 = 4 → r_X4_attempt h x0 x1 x2 = some o → MetI l yX4_attempt cX4_attempt 6 (some .int)  (d + 6) (d * 27 + 161) X [.ref x0, .int x1, .int x2] h o) (hr_X4_reply : ∀ {h : Hp} {x0 : Nat} {x1 : Int32} {o : Int32 × Hp}, hK h x0 = 4 → r_X4_reply h x0 x1 = some o → MetI l yX4_reply cX4_reply 3 (some .int)  (d + 6) (d * 27 + 161) X [.ref x0, .int x1] h o) (hr_X4_goOn : ∀ {h : Hp} {x0 : Nat} {x1 : Int32} {o : Int32 × Hp}, hK h x0 = 4 → r_X4_goOn h x0 x1 = some o → MetI l yX4_goOn cX4_goOn 3 (some .int)  (d + 6) (d * 27 + 161) X [.ref x0, .int x1] h o) (hr_X4_branch : ∀ {h : Hp} {x0 : Nat} {x1 : Int32} {x2 : Int32} {o : Int32 × Hp}, hK h x0 = 4 → r_X4_branch h x0 x1 x2 = some o → MetI l yX4_branch cX4_branch 3 (some .int)  (d + 6) (d * 27 + 161) X [.ref x0, .int x1, .int x2] h o) (hr_X4_tree : ∀ {h : Hp} {x0 : Nat} {x1 : Int32} {o : Int32 × Hp}, hK h x0 = 4 → r_X4_tree h x0 x1 = some o → MetI l yX4_tree cX4_tree 8 (some .int)  (d + 6) (d * 27 + 161) X [.ref x0, .int x1] h o) (mr_X4_attempt : ∀ {h : Hp} {x0 : Nat} {x1 : Int32} {x2 : Int32} {o : Int32 × Hp}, r_X4_attempt h x0 x1 x2 = some o → Le h o.2) (mr_X4_reply : ∀ {h : Hp} {x0 : Nat} {x1 : Int32} {o : Int32 × Hp}, r_X4_reply h x0 x1 = some o → Le h o.2) (mr_X4_goOn : ∀ {h : Hp} {x0 : Nat} {x1 : Int32} {o : Int32 × Hp}, r_X4_goOn h x0 x1 = some o → Le h o.2) (mr_X4_branch : ∀ {h : Hp} {x0 : Nat} {x1 : Int32} {x2 : Int32} {o : Int32 × Hp}, r_X4_branch h x0 x1 x2 = some o → Le h o.2) (mr_X4_tree : ∀ {h : Hp} {x0 : Nat} {x1 : Int32} {o : Int32 × Hp}, r_X4_tree h x0 x1 = some o → Le h o.2) {h : Hp} {H : Heap} {locs : List Loc} (hkm : Km h0 h) (hW : Wx X h H) (hZ : va_S (aA (eB X)) s.heap H locs) (ls : Array Slot) (hl : lv_has ls 6 []) (hE : sX4_attempt_98 F r_X4_attempt r_X4_reply r_X4_goOn r_X4_branch r_X4_tree h  = some o) : W p l e (rm (d + 1 + 6) ((d + 1) * 27 + 161)) s m args below meth c H locs 0 0 (MQ below (QI X h0 o.1 o.2) args s 0 0 (aA (eB X))) (F0 m 98 ls []) := by
  refine lv_iconst (v := (0 : Int32)) C.1 C.2.1 dX4_attempt_98 (by decide) ?_
  refine lv_goto (tgt := 124) C.1 C.2.1 dX4_attempt_99 (by decide) ?_
  exact bX4_attempt_124 C hr_X4_attempt hr_X4_reply hr_X4_goOn hr_X4_branch hr_X4_tree mr_X4_attempt mr_X4_reply mr_X4_goOn mr_X4_branch mr_X4_tree hkm hW hZ _ (lv_sub hl [] rfl) hE
set_option maxRecDepth 20000 in
theorem bX4_attempt_74 {p : Program} {l : Launch} {e : Env} {s : State} {m : MethodId} {args : Array Value} {below : List Frame} {meth : Method} {c : Code} {X : Ec} {h0 : Hp} {o : Int32 × Hp} {d : Nat} {r_X4_attempt : Hp → Nat → Int32 → Int32 → Option (Int32 × Hp)} {r_X4_reply : Hp → Nat → Int32 → Option (Int32 × Hp)} {r_X4_goOn : Hp → Nat → Int32 → Option (Int32 × Hp)} {r_X4_branch : Hp → Nat → Int32 → Int32 → Option (Int32 × Hp)} {r_X4_tree : Hp → Nat → Int32 → Option (Int32 × Hp)} {F : Nat} (C : Cx X p s m args meth c RX4 cX4_attempt 6 (some .int) "attempt") (hr_X4_attempt : ∀ {h : Hp} {x0 : Nat} {x1 : Int32} {x2 : Int32} {o : Int32 × Hp}, hK h x0 = 4 → r_X4_attempt h x0 x1 x2 = some o → MetI l yX4_attempt cX4_attempt 6 (some .int)  (d + 6) (d * 27 + 161) X [.ref x0, .int x1, .int x2] h o) (hr_X4_reply : ∀ {h : Hp} {x0 : Nat} {x1 : Int32} {o : Int32 × Hp}, hK h x0 = 4 → r_X4_reply h x0 x1 = some o → MetI l yX4_reply cX4_reply 3 (some .int)  (d + 6) (d * 27 + 161) X [.ref x0, .int x1] h o) (hr_X4_goOn : ∀ {h : Hp} {x0 : Nat} {x1 : Int32} {o : Int32 × Hp}, hK h x0 = 4 → r_X4_goOn h x0 x1 = some o → MetI l yX4_goOn cX4_goOn 3 (some .int)  (d + 6) (d * 27 + 161) X [.ref x0, .int x1] h o) (hr_X4_branch : ∀ {h : Hp} {x0 : Nat} {x1 : Int32} {x2 : Int32} {o : Int32 × Hp}, hK h x0 = 4 → r_X4_branch h x0 x1 x2 = some o → MetI l yX4_branch cX4_branch 3 (some .int)  (d + 6) (d * 27 + 161) X [.ref x0, .int x1, .int x2] h o) (hr_X4_tree : ∀ {h : Hp} {x0 : Nat} {x1 : Int32} {o : Int32 × Hp}, hK h x0 = 4 → r_X4_tree h x0 x1 = some o → MetI l yX4_tree cX4_tree 8 (some .int)  (d + 6) (d * 27 + 161) X [.ref x0, .int x1] h o) (mr_X4_attempt : ∀ {h : Hp} {x0 : Nat} {x1 : Int32} {x2 : Int32} {o : Int32 × Hp}, r_X4_attempt h x0 x1 x2 = some o → Le h o.2) (mr_X4_reply : ∀ {h : Hp} {x0 : Nat} {x1 : Int32} {o : Int32 × Hp}, r_X4_reply h x0 x1 = some o → Le h o.2) (mr_X4_goOn : ∀ {h : Hp} {x0 : Nat} {x1 : Int32} {o : Int32 × Hp}, r_X4_goOn h x0 x1 = some o → Le h o.2) (mr_X4_branch : ∀ {h : Hp} {x0 : Nat} {x1 : Int32} {x2 : Int32} {o : Int32 × Hp}, r_X4_branch h x0 x1 x2 = some o → Le h o.2) (mr_X4_tree : ∀ {h : Hp} {x0 : Nat} {x1 : Int32} {o : Int32 × Hp}, r_X4_tree h x0 x1 = some o → Le h o.2) {h : Hp} {x0 : Nat} {x1 : Int32} {x3 : Int32} {x4 : Int32} {H : Heap} {locs : List Loc} (k_x0 : hK h x0 = 4) (hkm : Km h0 h) (hW : Wx X h H) (hZ : va_S (aA (eB X)) s.heap H locs) (ls : Array Slot) (hl : lv_has ls 6 [(0, .ref x0), (1, .int x1), (3, .int x3), (4, .int x4)]) (hE : sX4_attempt_74 F r_X4_attempt r_X4_reply r_X4_goOn r_X4_branch r_X4_tree h x0 x1 x3 x4 = some o) : W p l e (rm (d + 1 + 6) ((d + 1) * 27 + 161)) s m args below meth c H locs 0 0 (MQ below (QI X h0 o.1 o.2) args s 0 0 (aA (eB X))) (F0 m 74 ls []) := by
  refine lv_aload_n C.1 C.2.1 dX4_attempt_74 rfl (lv_at hl 0 rfl) ?_
  obtain ⟨r_1, er_1, hE⟩ := cl_e hE
  refine gf_X4_22 C hW k_x0 er_1 dX4_attempt_75 (fun k_r_1 => ?_)
  refine lv_iload_n C.1 C.2.1 dX4_attempt_78 rfl (lv_at hl 1 rfl) ?_
  refine lv_iconst (v := (1 : Int32)) C.1 C.2.1 dX4_attempt_79 (by decide) ?_
  refine lv_iadd C.1 C.2.1 dX4_attempt_80 ?_
  obtain ⟨g_2, hE⟩ := gd_e hE
  refine y_iald C hW k_r_1 g_2 dX4_attempt_81 ?_
  refine lv_if_ne (tgt := 102) C.1 C.2.1 dX4_attempt_82 (by decide) (fun c_3 => ?_) (fun c_3 => ?_)
  · have hE := br_n hE c_3
    refine lv_aload_n C.1 C.2.1 dX4_attempt_102 rfl (lv_at hl 0 rfl) ?_
    refine gf_X4_50 C hW k_x0 dX4_attempt_103 ?_
    refine lv_if_ne (tgt := 123) C.1 C.2.1 dX4_attempt_106 (by decide) (fun c_4 => ?_) (fun c_4 => ?_)
    · have hE := br_n hE c_4
      exact bX4_attempt_123 C hr_X4_attempt hr_X4_reply hr_X4_goOn hr_X4_branch hr_X4_tree mr_X4_attempt mr_X4_reply mr_X4_goOn mr_X4_branch mr_X4_tree hkm hW hZ _ (lv_sub hl [] rfl) hE
    · have hE := br_p hE c_4
      refine lv_aload_n C.1 C.2.1 dX4_attempt_109 rfl (lv_at hl 0 rfl) ?_
      refine lv_iload_n C.1 C.2.1 dX4_attempt_110 rfl (lv_at hl 1 rfl) ?_
      refine lv_iconst (v := (1 : Int32)) C.1 C.2.1 dX4_attempt_111 (by decide) ?_
      refine lv_iadd C.1 C.2.1 dX4_attempt_112 ?_
      obtain ⟨o_5, eo_5, hE⟩ := cl_e hE
      refine x_kI (o := o_5) (z_runV (As := [.int (x1 + (1 : Int32))]) (rest := []) C (ct_X4_isGoal l X k_x0 eo_5) cw_X4_109 hW hZ k_x0 (by decide) rfl rfl rfl hl.1 (Nat.le_of_ble_eq_true rfl) rfl dX4_attempt_113 ⟨by dsimp only [rm, rmA]; omega, by dsimp only [rm, rmA]; omega⟩ ⟨Nat.le_refl _, Nat.le_refl _⟩) hZ (fun _ _ hW km hZ => ?_)
      replace hkm := hkm.tr km
      replace k_x0 := km.at k_x0 (by decide)
      refine lv_if_eq (tgt := 123) C.1 C.2.1 dX4_attempt_116 (by decide) (fun c_6 => ?_) (fun c_6 => ?_)
      · have hE := br_p hE c_6
        exact bX4_attempt_123 C hr_X4_attempt hr_X4_reply hr_X4_goOn hr_X4_branch hr_X4_tree mr_X4_attempt mr_X4_reply mr_X4_goOn mr_X4_branch mr_X4_tree hkm hW hZ _ (lv_sub hl [] rfl) hE
      · have hE := br_n hE c_6
        refine lv_iconst (v := (1 : Int32)) C.1 C.2.1 dX4_attempt_119 (by decide) ?_
        refine lv_goto (tgt := 124) C.1 C.2.1 dX4_attempt_120 (by decide) ?_
        exact bX4_attempt_124 C hr_X4_attempt hr_X4_reply hr_X4_goOn hr_X4_branch hr_X4_tree mr_X4_attempt mr_X4_reply mr_X4_goOn mr_X4_branch mr_X4_tree hkm hW hZ _ (lv_sub hl [] rfl) hE
  · have hE := br_p hE c_3
    refine lv_iload_n C.1 C.2.1 dX4_attempt_85 rfl (lv_at hl 2 rfl) ?_
    refine lv_if_eq (tgt := 98) C.1 C.2.1 dX4_attempt_86 (by decide) (fun c_7 => ?_) (fun c_7 => ?_)
    · have hE := br_p hE c_7
      exact bX4_attempt_98 C hr_X4_attempt hr_X4_reply hr_X4_goOn hr_X4_branch hr_X4_tree mr_X4_attempt mr_X4_reply mr_X4_goOn mr_X4_branch mr_X4_tree hkm hW hZ _ (lv_sub hl [] rfl) hE
    · have hE := br_n hE c_7
      refine lv_iload C.1 C.2.1 dX4_attempt_89 (lv_at hl 3 rfl) ?_
      refine lv_if_ne (tgt := 98) C.1 C.2.1 dX4_attempt_91 (by decide) (fun c_8 => ?_) (fun c_8 => ?_)
      · have hE := br_n hE c_8
        exact bX4_attempt_98 C hr_X4_attempt hr_X4_reply hr_X4_goOn hr_X4_branch hr_X4_tree mr_X4_attempt mr_X4_reply mr_X4_goOn mr_X4_branch mr_X4_tree hkm hW hZ _ (lv_sub hl [] rfl) hE
      · have hE := br_p hE c_8
        refine lv_iconst (v := (1 : Int32)) C.1 C.2.1 dX4_attempt_94 (by decide) ?_
        refine lv_goto (tgt := 124) C.1 C.2.1 dX4_attempt_95 (by decide) ?_
        exact bX4_attempt_124 C hr_X4_attempt hr_X4_reply hr_X4_goOn hr_X4_branch hr_X4_tree mr_X4_attempt mr_X4_reply mr_X4_goOn mr_X4_branch mr_X4_tree hkm hW hZ _ (lv_sub hl [] rfl) hE
set_option maxRecDepth 20000 in
theorem bX4_attempt_73 {p : Program} {l : Launch} {e : Env} {s : State} {m : MethodId} {args : Array Value} {below : List Frame} {meth : Method} {c : Code} {X : Ec} {h0 : Hp} {o : Int32 × Hp} {d : Nat} {r_X4_attempt : Hp → Nat → Int32 → Int32 → Option (Int32 × Hp)} {r_X4_reply : Hp → Nat → Int32 → Option (Int32 × Hp)} {r_X4_goOn : Hp → Nat → Int32 → Option (Int32 × Hp)} {r_X4_branch : Hp → Nat → Int32 → Int32 → Option (Int32 × Hp)} {r_X4_tree : Hp → Nat → Int32 → Option (Int32 × Hp)} {F : Nat} (C : Cx X p s m args meth c RX4 cX4_attempt 6 (some .int) "attempt") (hr_X4_attempt : ∀ {h : Hp} {x0 : Nat} {x1 : Int32} {x2 : Int32} {o : Int32 × Hp}, hK h x0 = 4 → r_X4_attempt h x0 x1 x2 = some o → MetI l yX4_attempt cX4_attempt 6 (some .int)  (d + 6) (d * 27 + 161) X [.ref x0, .int x1, .int x2] h o) (hr_X4_reply : ∀ {h : Hp} {x0 : Nat} {x1 : Int32} {o : Int32 × Hp}, hK h x0 = 4 → r_X4_reply h x0 x1 = some o → MetI l yX4_reply cX4_reply 3 (some .int)  (d + 6) (d * 27 + 161) X [.ref x0, .int x1] h o) (hr_X4_goOn : ∀ {h : Hp} {x0 : Nat} {x1 : Int32} {o : Int32 × Hp}, hK h x0 = 4 → r_X4_goOn h x0 x1 = some o → MetI l yX4_goOn cX4_goOn 3 (some .int)  (d + 6) (d * 27 + 161) X [.ref x0, .int x1] h o) (hr_X4_branch : ∀ {h : Hp} {x0 : Nat} {x1 : Int32} {x2 : Int32} {o : Int32 × Hp}, hK h x0 = 4 → r_X4_branch h x0 x1 x2 = some o → MetI l yX4_branch cX4_branch 3 (some .int)  (d + 6) (d * 27 + 161) X [.ref x0, .int x1, .int x2] h o) (hr_X4_tree : ∀ {h : Hp} {x0 : Nat} {x1 : Int32} {o : Int32 × Hp}, hK h x0 = 4 → r_X4_tree h x0 x1 = some o → MetI l yX4_tree cX4_tree 8 (some .int)  (d + 6) (d * 27 + 161) X [.ref x0, .int x1] h o) (mr_X4_attempt : ∀ {h : Hp} {x0 : Nat} {x1 : Int32} {x2 : Int32} {o : Int32 × Hp}, r_X4_attempt h x0 x1 x2 = some o → Le h o.2) (mr_X4_reply : ∀ {h : Hp} {x0 : Nat} {x1 : Int32} {o : Int32 × Hp}, r_X4_reply h x0 x1 = some o → Le h o.2) (mr_X4_goOn : ∀ {h : Hp} {x0 : Nat} {x1 : Int32} {o : Int32 × Hp}, r_X4_goOn h x0 x1 = some o → Le h o.2) (mr_X4_branch : ∀ {h : Hp} {x0 : Nat} {x1 : Int32} {x2 : Int32} {o : Int32 × Hp}, r_X4_branch h x0 x1 x2 = some o → Le h o.2) (mr_X4_tree : ∀ {h : Hp} {x0 : Nat} {x1 : Int32} {o : Int32 × Hp}, r_X4_tree h x0 x1 = some o → Le h o.2) {h : Hp} {x0 : Nat} {x1 : Int32} {x3 : Int32} {x4 : Int32} {t0 : Int32} {t1 : Int32} {t2 : Nat} {H : Heap} {locs : List Loc} (k_x0 : hK h x0 = 4) (k_t2 : hK h t2 = 17) (hkm : Km h0 h) (hW : Wx X h H) (hZ : va_S (aA (eB X)) s.heap H locs) (ls : Array Slot) (hl : lv_has ls 6 [(0, .ref x0), (1, .int x1), (3, .int x3), (4, .int x4)]) (hE : sX4_attempt_73 F r_X4_attempt r_X4_reply r_X4_goOn r_X4_branch r_X4_tree h x0 x1 x3 x4 t0 t1 t2 = some o) : W p l e (rm (d + 1 + 6) ((d + 1) * 27 + 161)) s m args below meth c H locs 0 0 (MQ below (QI X h0 o.1 o.2) args s 0 0 (aA (eB X))) (F0 m 73 ls [.int t0, .int t1, .ref t2]) := by
  obtain ⟨g_1, hE⟩ := gd_e hE
  obtain ⟨h_2, eh_2, hE⟩ := nm_e2 hE
  refine y_iast C hW hZ k_t2 g_1 eh_2 dX4_attempt_73 (fun _ _ hW km hZ => ?_)
  replace hkm := hkm.tr km
  replace k_x0 := km.at k_x0 (by decide)
  exact bX4_attempt_74 C hr_X4_attempt hr_X4_reply hr_X4_goOn hr_X4_branch hr_X4_tree mr_X4_attempt mr_X4_reply mr_X4_goOn mr_X4_branch mr_X4_tree k_x0 hkm hW hZ _ (lv_sub hl [0, 1, 2, 3] rfl) hE
set_option maxRecDepth 20000 in
theorem bX4_attempt_31 {p : Program} {l : Launch} {e : Env} {s : State} {m : MethodId} {args : Array Value} {below : List Frame} {meth : Method} {c : Code} {X : Ec} {h0 : Hp} {o : Int32 × Hp} {d : Nat} {r_X4_attempt : Hp → Nat → Int32 → Int32 → Option (Int32 × Hp)} {r_X4_reply : Hp → Nat → Int32 → Option (Int32 × Hp)} {r_X4_goOn : Hp → Nat → Int32 → Option (Int32 × Hp)} {r_X4_branch : Hp → Nat → Int32 → Int32 → Option (Int32 × Hp)} {r_X4_tree : Hp → Nat → Int32 → Option (Int32 × Hp)} {F : Nat} (C : Cx X p s m args meth c RX4 cX4_attempt 6 (some .int) "attempt") (hr_X4_attempt : ∀ {h : Hp} {x0 : Nat} {x1 : Int32} {x2 : Int32} {o : Int32 × Hp}, hK h x0 = 4 → r_X4_attempt h x0 x1 x2 = some o → MetI l yX4_attempt cX4_attempt 6 (some .int)  (d + 6) (d * 27 + 161) X [.ref x0, .int x1, .int x2] h o) (hr_X4_reply : ∀ {h : Hp} {x0 : Nat} {x1 : Int32} {o : Int32 × Hp}, hK h x0 = 4 → r_X4_reply h x0 x1 = some o → MetI l yX4_reply cX4_reply 3 (some .int)  (d + 6) (d * 27 + 161) X [.ref x0, .int x1] h o) (hr_X4_goOn : ∀ {h : Hp} {x0 : Nat} {x1 : Int32} {o : Int32 × Hp}, hK h x0 = 4 → r_X4_goOn h x0 x1 = some o → MetI l yX4_goOn cX4_goOn 3 (some .int)  (d + 6) (d * 27 + 161) X [.ref x0, .int x1] h o) (hr_X4_branch : ∀ {h : Hp} {x0 : Nat} {x1 : Int32} {x2 : Int32} {o : Int32 × Hp}, hK h x0 = 4 → r_X4_branch h x0 x1 x2 = some o → MetI l yX4_branch cX4_branch 3 (some .int)  (d + 6) (d * 27 + 161) X [.ref x0, .int x1, .int x2] h o) (hr_X4_tree : ∀ {h : Hp} {x0 : Nat} {x1 : Int32} {o : Int32 × Hp}, hK h x0 = 4 → r_X4_tree h x0 x1 = some o → MetI l yX4_tree cX4_tree 8 (some .int)  (d + 6) (d * 27 + 161) X [.ref x0, .int x1] h o) (mr_X4_attempt : ∀ {h : Hp} {x0 : Nat} {x1 : Int32} {x2 : Int32} {o : Int32 × Hp}, r_X4_attempt h x0 x1 x2 = some o → Le h o.2) (mr_X4_reply : ∀ {h : Hp} {x0 : Nat} {x1 : Int32} {o : Int32 × Hp}, r_X4_reply h x0 x1 = some o → Le h o.2) (mr_X4_goOn : ∀ {h : Hp} {x0 : Nat} {x1 : Int32} {o : Int32 × Hp}, r_X4_goOn h x0 x1 = some o → Le h o.2) (mr_X4_branch : ∀ {h : Hp} {x0 : Nat} {x1 : Int32} {x2 : Int32} {o : Int32 × Hp}, r_X4_branch h x0 x1 x2 = some o → Le h o.2) (mr_X4_tree : ∀ {h : Hp} {x0 : Nat} {x1 : Int32} {o : Int32 × Hp}, r_X4_tree h x0 x1 = some o → Le h o.2) {h : Hp} {x0 : Nat} {x1 : Int32} {x2 : Int32} {x3 : Int32} {t0 : Int32} {H : Heap} {locs : List Loc} (k_x0 : hK h x0 = 4) (hkm : Km h0 h) (hW : Wx X h H) (hZ : va_S (aA (eB X)) s.heap H locs) (ls : Array Slot) (hl : lv_has ls 6 [(0, .ref x0), (1, .int x1), (2, .int x2), (3, .int x3)]) (hE : sX4_attempt_31 F r_X4_attempt r_X4_reply r_X4_goOn r_X4_branch r_X4_tree h x0 x1 x2 x3 t0 = some o) : W p l e (rm (d + 1 + 6) ((d + 1) * 27 + 161)) s m args below meth c H locs 0 0 (MQ below (QI X h0 o.1 o.2) args s 0 0 (aA (eB X))) (F0 m 31 ls [.int t0]) := by
  refine lv_istore (lv' := [(4, .int t0), (0, .ref x0), (1, .int x1), (2, .int x2), (3, .int x3)]) C.1 C.2.1 dX4_attempt_31 hl (by decide) rfl (fun ls hl => ?_)
  refine lv_iload_n C.1 C.2.1 dX4_attempt_33 rfl (lv_at hl 2 rfl) ?_
  refine lv_if_ne (tgt := 74) C.1 C.2.1 dX4_attempt_34 (by decide) (fun c_1 => ?_) (fun c_1 => ?_)
  · have hE := br_n hE c_1
    exact bX4_attempt_74 C hr_X4_attempt hr_X4_reply hr_X4_goOn hr_X4_branch hr_X4_tree mr_X4_attempt mr_X4_reply mr_X4_goOn mr_X4_branch mr_X4_tree k_x0 hkm hW hZ _ (lv_sub hl [1, 2, 4, 0] rfl) hE
  · have hE := br_p hE c_1
    refine lv_aload_n C.1 C.2.1 dX4_attempt_37 rfl (lv_at hl 1 rfl) ?_
    obtain ⟨r_2, er_2, hE⟩ := cl_e hE
    refine gf_X4_32 C hW k_x0 er_2 dX4_attempt_38 (fun k_r_2 => ?_)
    refine lv_iload_n C.1 C.2.1 dX4_attempt_41 rfl (lv_at hl 3 rfl) ?_
    refine lv_iload_n C.1 C.2.1 dX4_attempt_42 rfl (lv_at hl 4 rfl) ?_
    refine lv_if_eq (tgt := 51) C.1 C.2.1 dX4_attempt_43 (by decide) (fun c_3 => ?_) (fun c_3 => ?_)
    · have hE := br_p hE c_3
      refine lv_aload_n C.1 C.2.1 dX4_attempt_51 rfl (lv_at hl 1 rfl) ?_
      obtain ⟨r_4, er_4, hE⟩ := cl_e hE
      refine gf_X4_45 C hW k_x0 er_4 dX4_attempt_52 (fun k_r_4 => ?_)
      refine lv_aload_n C.1 C.2.1 dX4_attempt_55 rfl (lv_at hl 1 rfl) ?_
      obtain ⟨r_5, er_5, hE⟩ := cl_e hE
      refine gf_X4_13 C hW k_x0 er_5 dX4_attempt_56 (fun k_r_5 => ?_)
      refine lv_iconst (v := (1 : Int32)) C.1 C.2.1 dX4_attempt_59 (by decide) ?_
      obtain ⟨g_6, hE⟩ := gd_e hE
      obtain ⟨r_7, er_7, hE⟩ := cl_e hE
      refine y_aald (t0 := 4) C hW k_r_5 (by decide) (by decide) rfl rfl rfl (fun _ => rfl) g_6 er_7 dX4_attempt_60 (fun k_r_7 => ?_)
      refine lv_aload_n C.1 C.2.1 dX4_attempt_61 rfl (lv_at hl 1 rfl) ?_
      obtain ⟨r_8, er_8, hE⟩ := cl_e hE
      refine gf_X4_19 C hW k_x0 er_8 dX4_attempt_62 (fun k_r_8 => ?_)
      refine lv_iconst (v := (1 : Int32)) C.1 C.2.1 dX4_attempt_65 (by decide) ?_
      obtain ⟨g_9, hE⟩ := gd_e hE
      obtain ⟨r_10, er_10, hE⟩ := cl_e hE
      refine y_aald (t0 := 7) C hW k_r_8 (by decide) (by decide) rfl rfl rfl (fun _ => rfl) g_9 er_10 dX4_attempt_66 (fun k_r_10 => ?_)
      refine lv_sipush (v := (4096 : Int32)) C.1 C.2.1 dX4_attempt_67 (by decide) ?_
      obtain ⟨o_11, eo_11, hE⟩ := cl_e hE
      refine x_kI (o := o_11) (z_runV (As := [.ref r_7, .ref r_10, .int (4096 : Int32)]) (rest := [.int x2, .ref r_2]) C (ct_X5_collect l X F k_r_4 k_r_7 k_r_10 eo_11) cw_X4_77 hW hZ k_r_4 (by decide) rfl rfl rfl hl.1 (Nat.le_of_ble_eq_true rfl) rfl dX4_attempt_70 ⟨by dsimp only [rm, rmA]; omega, by dsimp only [rm, rmA]; omega⟩ ⟨Nat.le_refl _, Nat.le_refl _⟩) hZ (fun _ _ hW km hZ => ?_)
      replace hkm := hkm.tr km
      replace k_x0 := km.at k_x0 (by decide)
      replace k_r_2 := km.at k_r_2 (by decide)
      exact bX4_attempt_73 C hr_X4_attempt hr_X4_reply hr_X4_goOn hr_X4_branch hr_X4_tree mr_X4_attempt mr_X4_reply mr_X4_goOn mr_X4_branch mr_X4_tree k_x0 k_r_2 hkm hW hZ _ (lv_sub hl [1, 2, 4, 0] rfl) hE
    · have hE := br_n hE c_3
      refine lv_iload C.1 C.2.1 dX4_attempt_46 (lv_at hl 0 rfl) ?_
      refine lv_goto (tgt := 73) C.1 C.2.1 dX4_attempt_48 (by decide) ?_
      exact bX4_attempt_73 C hr_X4_attempt hr_X4_reply hr_X4_goOn hr_X4_branch hr_X4_tree mr_X4_attempt mr_X4_reply mr_X4_goOn mr_X4_branch mr_X4_tree k_x0 k_r_2 hkm hW hZ _ (lv_sub hl [1, 2, 4, 0] rfl) hE
set_option maxRecDepth 20000 in
theorem bX4_attempt_15 {p : Program} {l : Launch} {e : Env} {s : State} {m : MethodId} {args : Array Value} {below : List Frame} {meth : Method} {c : Code} {X : Ec} {h0 : Hp} {o : Int32 × Hp} {d : Nat} {r_X4_attempt : Hp → Nat → Int32 → Int32 → Option (Int32 × Hp)} {r_X4_reply : Hp → Nat → Int32 → Option (Int32 × Hp)} {r_X4_goOn : Hp → Nat → Int32 → Option (Int32 × Hp)} {r_X4_branch : Hp → Nat → Int32 → Int32 → Option (Int32 × Hp)} {r_X4_tree : Hp → Nat → Int32 → Option (Int32 × Hp)} {F : Nat} (C : Cx X p s m args meth c RX4 cX4_attempt 6 (some .int) "attempt") (hr_X4_attempt : ∀ {h : Hp} {x0 : Nat} {x1 : Int32} {x2 : Int32} {o : Int32 × Hp}, hK h x0 = 4 → r_X4_attempt h x0 x1 x2 = some o → MetI l yX4_attempt cX4_attempt 6 (some .int)  (d + 6) (d * 27 + 161) X [.ref x0, .int x1, .int x2] h o) (hr_X4_reply : ∀ {h : Hp} {x0 : Nat} {x1 : Int32} {o : Int32 × Hp}, hK h x0 = 4 → r_X4_reply h x0 x1 = some o → MetI l yX4_reply cX4_reply 3 (some .int)  (d + 6) (d * 27 + 161) X [.ref x0, .int x1] h o) (hr_X4_goOn : ∀ {h : Hp} {x0 : Nat} {x1 : Int32} {o : Int32 × Hp}, hK h x0 = 4 → r_X4_goOn h x0 x1 = some o → MetI l yX4_goOn cX4_goOn 3 (some .int)  (d + 6) (d * 27 + 161) X [.ref x0, .int x1] h o) (hr_X4_branch : ∀ {h : Hp} {x0 : Nat} {x1 : Int32} {x2 : Int32} {o : Int32 × Hp}, hK h x0 = 4 → r_X4_branch h x0 x1 x2 = some o → MetI l yX4_branch cX4_branch 3 (some .int)  (d + 6) (d * 27 + 161) X [.ref x0, .int x1, .int x2] h o) (hr_X4_tree : ∀ {h : Hp} {x0 : Nat} {x1 : Int32} {o : Int32 × Hp}, hK h x0 = 4 → r_X4_tree h x0 x1 = some o → MetI l yX4_tree cX4_tree 8 (some .int)  (d + 6) (d * 27 + 161) X [.ref x0, .int x1] h o) (mr_X4_attempt : ∀ {h : Hp} {x0 : Nat} {x1 : Int32} {x2 : Int32} {o : Int32 × Hp}, r_X4_attempt h x0 x1 x2 = some o → Le h o.2) (mr_X4_reply : ∀ {h : Hp} {x0 : Nat} {x1 : Int32} {o : Int32 × Hp}, r_X4_reply h x0 x1 = some o → Le h o.2) (mr_X4_goOn : ∀ {h : Hp} {x0 : Nat} {x1 : Int32} {o : Int32 × Hp}, r_X4_goOn h x0 x1 = some o → Le h o.2) (mr_X4_branch : ∀ {h : Hp} {x0 : Nat} {x1 : Int32} {x2 : Int32} {o : Int32 × Hp}, r_X4_branch h x0 x1 x2 = some o → Le h o.2) (mr_X4_tree : ∀ {h : Hp} {x0 : Nat} {x1 : Int32} {o : Int32 × Hp}, r_X4_tree h x0 x1 = some o → Le h o.2) {h : Hp} {x0 : Nat} {x1 : Int32} {x2 : Int32} {t0 : Int32} {H : Heap} {locs : List Loc} (k_x0 : hK h x0 = 4) (hkm : Km h0 h) (hW : Wx X h H) (hZ : va_S (aA (eB X)) s.heap H locs) (ls : Array Slot) (hl : lv_has ls 6 [(0, .ref x0), (1, .int x1), (2, .int x2)]) (hE : sX4_attempt_15 F r_X4_attempt r_X4_reply r_X4_goOn r_X4_branch r_X4_tree h x0 x1 x2 t0 = some o) : W p l e (rm (d + 1 + 6) ((d + 1) * 27 + 161)) s m args below meth c H locs 0 0 (MQ below (QI X h0 o.1 o.2) args s 0 0 (aA (eB X))) (F0 m 15 ls [.int t0]) := by
  refine lv_istore_n (lv' := [(3, .int t0), (0, .ref x0), (1, .int x1), (2, .int x2)]) C.1 C.2.1 dX4_attempt_15 rfl hl (by decide) rfl (fun ls hl => ?_)
  refine lv_iload_n C.1 C.2.1 dX4_attempt_16 rfl (lv_at hl 0 rfl) ?_
  refine lv_if_eq (tgt := 30) C.1 C.2.1 dX4_attempt_17 (by decide) (fun c_1 => ?_) (fun c_1 => ?_)
  · have hE := br_p hE c_1
    refine lv_iconst (v := (0 : Int32)) C.1 C.2.1 dX4_attempt_30 (by decide) ?_
    exact bX4_attempt_31 C hr_X4_attempt hr_X4_reply hr_X4_goOn hr_X4_branch hr_X4_tree mr_X4_attempt mr_X4_reply mr_X4_goOn mr_X4_branch mr_X4_tree k_x0 hkm hW hZ _ (lv_sub hl [1, 2, 3, 0] rfl) hE
  · have hE := br_n hE c_1
    refine lv_aload_n C.1 C.2.1 dX4_attempt_20 rfl (lv_at hl 1 rfl) ?_
    refine lv_iload_n C.1 C.2.1 dX4_attempt_21 rfl (lv_at hl 2 rfl) ?_
    refine lv_iconst (v := (1 : Int32)) C.1 C.2.1 dX4_attempt_22 (by decide) ?_
    refine lv_iadd C.1 C.2.1 dX4_attempt_23 ?_
    obtain ⟨o_2, eo_2, hE⟩ := cl_e hE
    refine x_kI (o := o_2) (z_runV (As := [.int (x1 + (1 : Int32))]) (rest := []) C (hr_X4_tree k_x0 eo_2) cw_X4_106 hW hZ k_x0 (by decide) rfl rfl rfl hl.1 (Nat.le_of_ble_eq_true rfl) rfl dX4_attempt_24 ⟨by dsimp only [rm, rmA]; omega, by dsimp only [rm, rmA]; omega⟩ ⟨Nat.le_refl _, Nat.le_refl _⟩) hZ (fun _ _ hW km hZ => ?_)
    replace hkm := hkm.tr km
    replace k_x0 := km.at k_x0 (by decide)
    refine lv_goto (tgt := 31) C.1 C.2.1 dX4_attempt_27 (by decide) ?_
    exact bX4_attempt_31 C hr_X4_attempt hr_X4_reply hr_X4_goOn hr_X4_branch hr_X4_tree mr_X4_attempt mr_X4_reply mr_X4_goOn mr_X4_branch mr_X4_tree k_x0 hkm hW hZ _ (lv_sub hl [1, 2, 3, 0] rfl) hE
set_option maxRecDepth 20000 in
theorem ot_X4_attempt (l : Launch) (X : Ec) (F : Nat) {d : Nat} {r_X4_attempt : Hp → Nat → Int32 → Int32 → Option (Int32 × Hp)} {r_X4_reply : Hp → Nat → Int32 → Option (Int32 × Hp)} {r_X4_goOn : Hp → Nat → Int32 → Option (Int32 × Hp)} {r_X4_branch : Hp → Nat → Int32 → Int32 → Option (Int32 × Hp)} {r_X4_tree : Hp → Nat → Int32 → Option (Int32 × Hp)} (hr_X4_attempt : ∀ {h : Hp} {x0 : Nat} {x1 : Int32} {x2 : Int32} {o : Int32 × Hp}, hK h x0 = 4 → r_X4_attempt h x0 x1 x2 = some o → MetI l yX4_attempt cX4_attempt 6 (some .int)  (d + 6) (d * 27 + 161) X [.ref x0, .int x1, .int x2] h o) (hr_X4_reply : ∀ {h : Hp} {x0 : Nat} {x1 : Int32} {o : Int32 × Hp}, hK h x0 = 4 → r_X4_reply h x0 x1 = some o → MetI l yX4_reply cX4_reply 3 (some .int)  (d + 6) (d * 27 + 161) X [.ref x0, .int x1] h o) (hr_X4_goOn : ∀ {h : Hp} {x0 : Nat} {x1 : Int32} {o : Int32 × Hp}, hK h x0 = 4 → r_X4_goOn h x0 x1 = some o → MetI l yX4_goOn cX4_goOn 3 (some .int)  (d + 6) (d * 27 + 161) X [.ref x0, .int x1] h o) (hr_X4_branch : ∀ {h : Hp} {x0 : Nat} {x1 : Int32} {x2 : Int32} {o : Int32 × Hp}, hK h x0 = 4 → r_X4_branch h x0 x1 x2 = some o → MetI l yX4_branch cX4_branch 3 (some .int)  (d + 6) (d * 27 + 161) X [.ref x0, .int x1, .int x2] h o) (hr_X4_tree : ∀ {h : Hp} {x0 : Nat} {x1 : Int32} {o : Int32 × Hp}, hK h x0 = 4 → r_X4_tree h x0 x1 = some o → MetI l yX4_tree cX4_tree 8 (some .int)  (d + 6) (d * 27 + 161) X [.ref x0, .int x1] h o) (mr_X4_attempt : ∀ {h : Hp} {x0 : Nat} {x1 : Int32} {x2 : Int32} {o : Int32 × Hp}, r_X4_attempt h x0 x1 x2 = some o → Le h o.2) (mr_X4_reply : ∀ {h : Hp} {x0 : Nat} {x1 : Int32} {o : Int32 × Hp}, r_X4_reply h x0 x1 = some o → Le h o.2) (mr_X4_goOn : ∀ {h : Hp} {x0 : Nat} {x1 : Int32} {o : Int32 × Hp}, r_X4_goOn h x0 x1 = some o → Le h o.2) (mr_X4_branch : ∀ {h : Hp} {x0 : Nat} {x1 : Int32} {x2 : Int32} {o : Int32 × Hp}, r_X4_branch h x0 x1 x2 = some o → Le h o.2) (mr_X4_tree : ∀ {h : Hp} {x0 : Nat} {x1 : Int32} {o : Int32 × Hp}, r_X4_tree h x0 x1 = some o → Le h o.2) {h : Hp} {x0 : Nat} {x1 : Int32} {x2 : Int32} {o : Int32 × Hp} (k_x0 : hK h x0 = 4) (hE : oX4_attempt F r_X4_attempt r_X4_reply r_X4_goOn r_X4_branch r_X4_tree h x0 x1 x2 = some o) : MetI l yX4_attempt cX4_attempt 6 (some .int) (d + 1 + 6) ((d + 1) * 27 + 161) X [.ref x0, .int x1, .int x2] h o := by
  refine x_met (by decide) (Nat.le_of_ble_eq_true rfl) ?_
  intro p e s m below meth c ls C hl hW hZ
  have hl : lv_has ls 6 [(0, .ref x0), (1, .int x1), (2, .int x2)] := hl
  have hkm : Km h h := Km.rf h
  refine lv_iload_n C.1 C.2.1 dX4_attempt_0 rfl (lv_at hl 1 rfl) ?_
  refine lv_iconst (v := (1 : Int32)) C.1 C.2.1 dX4_attempt_1 (by decide) ?_
  refine lv_iadd C.1 C.2.1 dX4_attempt_2 ?_
  refine lv_aload_n C.1 C.2.1 dX4_attempt_3 rfl (lv_at hl 0 rfl) ?_
  refine gf_X4_56 C hW k_x0 dX4_attempt_4 ?_
  refine lv_icmp_ge (tgt := 14) C.1 C.2.1 dX4_attempt_7 (by decide) (fun c_1 => ?_) (fun c_1 => ?_)
  · have hE := br_p hE c_1
    refine lv_iconst (v := (0 : Int32)) C.1 C.2.1 dX4_attempt_14 (by decide) ?_
    exact bX4_attempt_15 C hr_X4_attempt hr_X4_reply hr_X4_goOn hr_X4_branch hr_X4_tree mr_X4_attempt mr_X4_reply mr_X4_goOn mr_X4_branch mr_X4_tree k_x0 hkm hW hZ _ (lv_sub hl [0, 1, 2] rfl) hE
  · have hE := br_n hE c_1
    refine lv_iconst (v := (1 : Int32)) C.1 C.2.1 dX4_attempt_10 (by decide) ?_
    refine lv_goto (tgt := 15) C.1 C.2.1 dX4_attempt_11 (by decide) ?_
    exact bX4_attempt_15 C hr_X4_attempt hr_X4_reply hr_X4_goOn hr_X4_branch hr_X4_tree mr_X4_attempt mr_X4_reply mr_X4_goOn mr_X4_branch mr_X4_tree k_x0 hkm hW hZ _ (lv_sub hl [0, 1, 2] rfl) hE
set_option maxRecDepth 20000 in
theorem moX4_reply_53 {o : Int32 × Hp} {F : Nat} {r_X4_attempt : Hp → Nat → Int32 → Int32 → Option (Int32 × Hp)} {r_X4_reply : Hp → Nat → Int32 → Option (Int32 × Hp)} {r_X4_goOn : Hp → Nat → Int32 → Option (Int32 × Hp)} {r_X4_branch : Hp → Nat → Int32 → Int32 → Option (Int32 × Hp)} {r_X4_tree : Hp → Nat → Int32 → Option (Int32 × Hp)} (mr_X4_attempt : ∀ {h : Hp} {x0 : Nat} {x1 : Int32} {x2 : Int32} {o : Int32 × Hp}, r_X4_attempt h x0 x1 x2 = some o → Le h o.2) (mr_X4_reply : ∀ {h : Hp} {x0 : Nat} {x1 : Int32} {o : Int32 × Hp}, r_X4_reply h x0 x1 = some o → Le h o.2) (mr_X4_goOn : ∀ {h : Hp} {x0 : Nat} {x1 : Int32} {o : Int32 × Hp}, r_X4_goOn h x0 x1 = some o → Le h o.2) (mr_X4_branch : ∀ {h : Hp} {x0 : Nat} {x1 : Int32} {x2 : Int32} {o : Int32 × Hp}, r_X4_branch h x0 x1 x2 = some o → Le h o.2) (mr_X4_tree : ∀ {h : Hp} {x0 : Nat} {x1 : Int32} {o : Int32 × Hp}, r_X4_tree h x0 x1 = some o → Le h o.2) {h : Hp} {t0 : Int32} (hE : sX4_reply_53 F r_X4_attempt r_X4_reply r_X4_goOn r_X4_branch r_X4_tree h  t0 = some o) : Le h o.2 := by
  exact le_some2 hE
set_option maxRecDepth 20000 in
theorem moX4_reply_48 {o : Int32 × Hp} {F : Nat} {r_X4_attempt : Hp → Nat → Int32 → Int32 → Option (Int32 × Hp)} {r_X4_reply : Hp → Nat → Int32 → Option (Int32 × Hp)} {r_X4_goOn : Hp → Nat → Int32 → Option (Int32 × Hp)} {r_X4_branch : Hp → Nat → Int32 → Int32 → Option (Int32 × Hp)} {r_X4_tree : Hp → Nat → Int32 → Option (Int32 × Hp)} (mr_X4_attempt : ∀ {h : Hp} {x0 : Nat} {x1 : Int32} {x2 : Int32} {o : Int32 × Hp}, r_X4_attempt h x0 x1 x2 = some o → Le h o.2) (mr_X4_reply : ∀ {h : Hp} {x0 : Nat} {x1 : Int32} {o : Int32 × Hp}, r_X4_reply h x0 x1 = some o → Le h o.2) (mr_X4_goOn : ∀ {h : Hp} {x0 : Nat} {x1 : Int32} {o : Int32 × Hp}, r_X4_goOn h x0 x1 = some o → Le h o.2) (mr_X4_branch : ∀ {h : Hp} {x0 : Nat} {x1 : Int32} {x2 : Int32} {o : Int32 × Hp}, r_X4_branch h x0 x1 x2 = some o → Le h o.2) (mr_X4_tree : ∀ {h : Hp} {x0 : Nat} {x1 : Int32} {o : Int32 × Hp}, r_X4_tree h x0 x1 = some o → Le h o.2) {h : Hp} (hE : sX4_reply_48 F r_X4_attempt r_X4_reply r_X4_goOn r_X4_branch r_X4_tree h  = some o) : Le h o.2 := by
  exact moX4_reply_53 mr_X4_attempt mr_X4_reply mr_X4_goOn mr_X4_branch mr_X4_tree hE
set_option maxRecDepth 20000 in
theorem moX4_reply_52 {o : Int32 × Hp} {F : Nat} {r_X4_attempt : Hp → Nat → Int32 → Int32 → Option (Int32 × Hp)} {r_X4_reply : Hp → Nat → Int32 → Option (Int32 × Hp)} {r_X4_goOn : Hp → Nat → Int32 → Option (Int32 × Hp)} {r_X4_branch : Hp → Nat → Int32 → Int32 → Option (Int32 × Hp)} {r_X4_tree : Hp → Nat → Int32 → Option (Int32 × Hp)} (mr_X4_attempt : ∀ {h : Hp} {x0 : Nat} {x1 : Int32} {x2 : Int32} {o : Int32 × Hp}, r_X4_attempt h x0 x1 x2 = some o → Le h o.2) (mr_X4_reply : ∀ {h : Hp} {x0 : Nat} {x1 : Int32} {o : Int32 × Hp}, r_X4_reply h x0 x1 = some o → Le h o.2) (mr_X4_goOn : ∀ {h : Hp} {x0 : Nat} {x1 : Int32} {o : Int32 × Hp}, r_X4_goOn h x0 x1 = some o → Le h o.2) (mr_X4_branch : ∀ {h : Hp} {x0 : Nat} {x1 : Int32} {x2 : Int32} {o : Int32 × Hp}, r_X4_branch h x0 x1 x2 = some o → Le h o.2) (mr_X4_tree : ∀ {h : Hp} {x0 : Nat} {x1 : Int32} {o : Int32 × Hp}, r_X4_tree h x0 x1 = some o → Le h o.2) {h : Hp} (hE : sX4_reply_52 F r_X4_attempt r_X4_reply r_X4_goOn r_X4_branch r_X4_tree h  = some o) : Le h o.2 := by
  exact moX4_reply_53 mr_X4_attempt mr_X4_reply mr_X4_goOn mr_X4_branch mr_X4_tree hE
set_option maxRecDepth 20000 in
theorem moX4_reply_25 {o : Int32 × Hp} {F : Nat} {r_X4_attempt : Hp → Nat → Int32 → Int32 → Option (Int32 × Hp)} {r_X4_reply : Hp → Nat → Int32 → Option (Int32 × Hp)} {r_X4_goOn : Hp → Nat → Int32 → Option (Int32 × Hp)} {r_X4_branch : Hp → Nat → Int32 → Int32 → Option (Int32 × Hp)} {r_X4_tree : Hp → Nat → Int32 → Option (Int32 × Hp)} (mr_X4_attempt : ∀ {h : Hp} {x0 : Nat} {x1 : Int32} {x2 : Int32} {o : Int32 × Hp}, r_X4_attempt h x0 x1 x2 = some o → Le h o.2) (mr_X4_reply : ∀ {h : Hp} {x0 : Nat} {x1 : Int32} {o : Int32 × Hp}, r_X4_reply h x0 x1 = some o → Le h o.2) (mr_X4_goOn : ∀ {h : Hp} {x0 : Nat} {x1 : Int32} {o : Int32 × Hp}, r_X4_goOn h x0 x1 = some o → Le h o.2) (mr_X4_branch : ∀ {h : Hp} {x0 : Nat} {x1 : Int32} {x2 : Int32} {o : Int32 × Hp}, r_X4_branch h x0 x1 x2 = some o → Le h o.2) (mr_X4_tree : ∀ {h : Hp} {x0 : Nat} {x1 : Int32} {o : Int32 × Hp}, r_X4_tree h x0 x1 = some o → Le h o.2) {h : Hp} {x0 : Nat} {x1 : Int32} {t0 : Int32} (hE : sX4_reply_25 F r_X4_attempt r_X4_reply r_X4_goOn r_X4_branch r_X4_tree h x0 x1 t0 = some o) : Le h o.2 := by
  rcases br_e hE with ⟨_, hE⟩ | ⟨_, hE⟩
  · rcases br_e hE with ⟨_, hE⟩ | ⟨_, hE⟩
    · obtain ⟨o_3, eo_3, hE⟩ := cl_e hE
      refine (moX4_isGoal eo_3).tr ?_
      rcases br_e hE with ⟨_, hE⟩ | ⟨_, hE⟩
      · exact moX4_reply_52 mr_X4_attempt mr_X4_reply mr_X4_goOn mr_X4_branch mr_X4_tree hE
      · exact moX4_reply_48 mr_X4_attempt mr_X4_reply mr_X4_goOn mr_X4_branch mr_X4_tree hE
    · exact moX4_reply_52 mr_X4_attempt mr_X4_reply mr_X4_goOn mr_X4_branch mr_X4_tree hE
  · exact moX4_reply_48 mr_X4_attempt mr_X4_reply mr_X4_goOn mr_X4_branch mr_X4_tree hE
set_option maxRecDepth 20000 in
theorem moX4_reply_24 {o : Int32 × Hp} {F : Nat} {r_X4_attempt : Hp → Nat → Int32 → Int32 → Option (Int32 × Hp)} {r_X4_reply : Hp → Nat → Int32 → Option (Int32 × Hp)} {r_X4_goOn : Hp → Nat → Int32 → Option (Int32 × Hp)} {r_X4_branch : Hp → Nat → Int32 → Int32 → Option (Int32 × Hp)} {r_X4_tree : Hp → Nat → Int32 → Option (Int32 × Hp)} (mr_X4_attempt : ∀ {h : Hp} {x0 : Nat} {x1 : Int32} {x2 : Int32} {o : Int32 × Hp}, r_X4_attempt h x0 x1 x2 = some o → Le h o.2) (mr_X4_reply : ∀ {h : Hp} {x0 : Nat} {x1 : Int32} {o : Int32 × Hp}, r_X4_reply h x0 x1 = some o → Le h o.2) (mr_X4_goOn : ∀ {h : Hp} {x0 : Nat} {x1 : Int32} {o : Int32 × Hp}, r_X4_goOn h x0 x1 = some o → Le h o.2) (mr_X4_branch : ∀ {h : Hp} {x0 : Nat} {x1 : Int32} {x2 : Int32} {o : Int32 × Hp}, r_X4_branch h x0 x1 x2 = some o → Le h o.2) (mr_X4_tree : ∀ {h : Hp} {x0 : Nat} {x1 : Int32} {o : Int32 × Hp}, r_X4_tree h x0 x1 = some o → Le h o.2) {h : Hp} {x0 : Nat} {x1 : Int32} (hE : sX4_reply_24 F r_X4_attempt r_X4_reply r_X4_goOn r_X4_branch r_X4_tree h x0 x1 = some o) : Le h o.2 := by
  exact moX4_reply_25 mr_X4_attempt mr_X4_reply mr_X4_goOn mr_X4_branch mr_X4_tree hE
set_option maxRecDepth 20000 in
theorem mooX4_reply {o : Int32 × Hp} {F : Nat} {r_X4_attempt : Hp → Nat → Int32 → Int32 → Option (Int32 × Hp)} {r_X4_reply : Hp → Nat → Int32 → Option (Int32 × Hp)} {r_X4_goOn : Hp → Nat → Int32 → Option (Int32 × Hp)} {r_X4_branch : Hp → Nat → Int32 → Int32 → Option (Int32 × Hp)} {r_X4_tree : Hp → Nat → Int32 → Option (Int32 × Hp)} (mr_X4_attempt : ∀ {h : Hp} {x0 : Nat} {x1 : Int32} {x2 : Int32} {o : Int32 × Hp}, r_X4_attempt h x0 x1 x2 = some o → Le h o.2) (mr_X4_reply : ∀ {h : Hp} {x0 : Nat} {x1 : Int32} {o : Int32 × Hp}, r_X4_reply h x0 x1 = some o → Le h o.2) (mr_X4_goOn : ∀ {h : Hp} {x0 : Nat} {x1 : Int32} {o : Int32 × Hp}, r_X4_goOn h x0 x1 = some o → Le h o.2) (mr_X4_branch : ∀ {h : Hp} {x0 : Nat} {x1 : Int32} {x2 : Int32} {o : Int32 × Hp}, r_X4_branch h x0 x1 x2 = some o → Le h o.2) (mr_X4_tree : ∀ {h : Hp} {x0 : Nat} {x1 : Int32} {o : Int32 × Hp}, r_X4_tree h x0 x1 = some o → Le h o.2) {h : Hp} {x0 : Nat} {x1 : Int32} (hE : oX4_reply F r_X4_attempt r_X4_reply r_X4_goOn r_X4_branch r_X4_tree h x0 x1 = some o) : Le h o.2 := by
  rcases br_e hE with ⟨_, hE⟩ | ⟨_, hE⟩
  · exact moX4_reply_24 mr_X4_attempt mr_X4_reply mr_X4_goOn mr_X4_branch mr_X4_tree hE
  · obtain ⟨o_2, eo_2, hE⟩ := cl_e hE
    refine (mr_X4_tree eo_2).tr ?_
    rcases br_e hE with ⟨_, hE⟩ | ⟨_, hE⟩
    · exact moX4_reply_24 mr_X4_attempt mr_X4_reply mr_X4_goOn mr_X4_branch mr_X4_tree hE
    · exact moX4_reply_25 mr_X4_attempt mr_X4_reply mr_X4_goOn mr_X4_branch mr_X4_tree hE
set_option maxRecDepth 20000 in
theorem bX4_reply_53 {p : Program} {l : Launch} {e : Env} {s : State} {m : MethodId} {args : Array Value} {below : List Frame} {meth : Method} {c : Code} {X : Ec} {h0 : Hp} {o : Int32 × Hp} {d : Nat} {r_X4_attempt : Hp → Nat → Int32 → Int32 → Option (Int32 × Hp)} {r_X4_reply : Hp → Nat → Int32 → Option (Int32 × Hp)} {r_X4_goOn : Hp → Nat → Int32 → Option (Int32 × Hp)} {r_X4_branch : Hp → Nat → Int32 → Int32 → Option (Int32 × Hp)} {r_X4_tree : Hp → Nat → Int32 → Option (Int32 × Hp)} {F : Nat} (C : Cx X p s m args meth c RX4 cX4_reply 3 (some .int) "reply") (hr_X4_attempt : ∀ {h : Hp} {x0 : Nat} {x1 : Int32} {x2 : Int32} {o : Int32 × Hp}, hK h x0 = 4 → r_X4_attempt h x0 x1 x2 = some o → MetI l yX4_attempt cX4_attempt 6 (some .int)  (d + 6) (d * 27 + 161) X [.ref x0, .int x1, .int x2] h o) (hr_X4_reply : ∀ {h : Hp} {x0 : Nat} {x1 : Int32} {o : Int32 × Hp}, hK h x0 = 4 → r_X4_reply h x0 x1 = some o → MetI l yX4_reply cX4_reply 3 (some .int)  (d + 6) (d * 27 + 161) X [.ref x0, .int x1] h o) (hr_X4_goOn : ∀ {h : Hp} {x0 : Nat} {x1 : Int32} {o : Int32 × Hp}, hK h x0 = 4 → r_X4_goOn h x0 x1 = some o → MetI l yX4_goOn cX4_goOn 3 (some .int)  (d + 6) (d * 27 + 161) X [.ref x0, .int x1] h o) (hr_X4_branch : ∀ {h : Hp} {x0 : Nat} {x1 : Int32} {x2 : Int32} {o : Int32 × Hp}, hK h x0 = 4 → r_X4_branch h x0 x1 x2 = some o → MetI l yX4_branch cX4_branch 3 (some .int)  (d + 6) (d * 27 + 161) X [.ref x0, .int x1, .int x2] h o) (hr_X4_tree : ∀ {h : Hp} {x0 : Nat} {x1 : Int32} {o : Int32 × Hp}, hK h x0 = 4 → r_X4_tree h x0 x1 = some o → MetI l yX4_tree cX4_tree 8 (some .int)  (d + 6) (d * 27 + 161) X [.ref x0, .int x1] h o) (mr_X4_attempt : ∀ {h : Hp} {x0 : Nat} {x1 : Int32} {x2 : Int32} {o : Int32 × Hp}, r_X4_attempt h x0 x1 x2 = some o → Le h o.2) (mr_X4_reply : ∀ {h : Hp} {x0 : Nat} {x1 : Int32} {o : Int32 × Hp}, r_X4_reply h x0 x1 = some o → Le h o.2) (mr_X4_goOn : ∀ {h : Hp} {x0 : Nat} {x1 : Int32} {o : Int32 × Hp}, r_X4_goOn h x0 x1 = some o → Le h o.2) (mr_X4_branch : ∀ {h : Hp} {x0 : Nat} {x1 : Int32} {x2 : Int32} {o : Int32 × Hp}, r_X4_branch h x0 x1 x2 = some o → Le h o.2) (mr_X4_tree : ∀ {h : Hp} {x0 : Nat} {x1 : Int32} {o : Int32 × Hp}, r_X4_tree h x0 x1 = some o → Le h o.2) {h : Hp} {t0 : Int32} {H : Heap} {locs : List Loc} (hkm : Km h0 h) (hW : Wx X h H) (hZ : va_S (aA (eB X)) s.heap H locs) (ls : Array Slot) (hl : lv_has ls 3 []) (hE : sX4_reply_53 F r_X4_attempt r_X4_reply r_X4_goOn r_X4_branch r_X4_tree h  t0 = some o) : W p l e (rm (d + 1 + 6) ((d + 1) * 27 + 161)) s m args below meth c H locs 0 0 (MQ below (QI X h0 o.1 o.2) args s 0 0 (aA (eB X))) (F0 m 53 ls [.int t0]) := by
  exact x_iret C rfl rfl hW hZ hkm hE dX4_reply_53
set_option maxRecDepth 20000 in
theorem bX4_reply_48 {p : Program} {l : Launch} {e : Env} {s : State} {m : MethodId} {args : Array Value} {below : List Frame} {meth : Method} {c : Code} {X : Ec} {h0 : Hp} {o : Int32 × Hp} {d : Nat} {r_X4_attempt : Hp → Nat → Int32 → Int32 → Option (Int32 × Hp)} {r_X4_reply : Hp → Nat → Int32 → Option (Int32 × Hp)} {r_X4_goOn : Hp → Nat → Int32 → Option (Int32 × Hp)} {r_X4_branch : Hp → Nat → Int32 → Int32 → Option (Int32 × Hp)} {r_X4_tree : Hp → Nat → Int32 → Option (Int32 × Hp)} {F : Nat} (C : Cx X p s m args meth c RX4 cX4_reply 3 (some .int) "reply") (hr_X4_attempt : ∀ {h : Hp} {x0 : Nat} {x1 : Int32} {x2 : Int32} {o : Int32 × Hp}, hK h x0 = 4 → r_X4_attempt h x0 x1 x2 = some o → MetI l yX4_attempt cX4_attempt 6 (some .int)  (d + 6) (d * 27 + 161) X [.ref x0, .int x1, .int x2] h o) (hr_X4_reply : ∀ {h : Hp} {x0 : Nat} {x1 : Int32} {o : Int32 × Hp}, hK h x0 = 4 → r_X4_reply h x0 x1 = some o → MetI l yX4_reply cX4_reply 3 (some .int)  (d + 6) (d * 27 + 161) X [.ref x0, .int x1] h o) (hr_X4_goOn : ∀ {h : Hp} {x0 : Nat} {x1 : Int32} {o : Int32 × Hp}, hK h x0 = 4 → r_X4_goOn h x0 x1 = some o → MetI l yX4_goOn cX4_goOn 3 (some .int)  (d + 6) (d * 27 + 161) X [.ref x0, .int x1] h o) (hr_X4_branch : ∀ {h : Hp} {x0 : Nat} {x1 : Int32} {x2 : Int32} {o : Int32 × Hp}, hK h x0 = 4 → r_X4_branch h x0 x1 x2 = some o → MetI l yX4_branch cX4_branch 3 (some .int)  (d + 6) (d * 27 + 161) X [.ref x0, .int x1, .int x2] h o) (hr_X4_tree : ∀ {h : Hp} {x0 : Nat} {x1 : Int32} {o : Int32 × Hp}, hK h x0 = 4 → r_X4_tree h x0 x1 = some o → MetI l yX4_tree cX4_tree 8 (some .int)  (d + 6) (d * 27 + 161) X [.ref x0, .int x1] h o) (mr_X4_attempt : ∀ {h : Hp} {x0 : Nat} {x1 : Int32} {x2 : Int32} {o : Int32 × Hp}, r_X4_attempt h x0 x1 x2 = some o → Le h o.2) (mr_X4_reply : ∀ {h : Hp} {x0 : Nat} {x1 : Int32} {o : Int32 × Hp}, r_X4_reply h x0 x1 = some o → Le h o.2) (mr_X4_goOn : ∀ {h : Hp} {x0 : Nat} {x1 : Int32} {o : Int32 × Hp}, r_X4_goOn h x0 x1 = some o → Le h o.2) (mr_X4_branch : ∀ {h : Hp} {x0 : Nat} {x1 : Int32} {x2 : Int32} {o : Int32 × Hp}, r_X4_branch h x0 x1 x2 = some o → Le h o.2) (mr_X4_tree : ∀ {h : Hp} {x0 : Nat} {x1 : Int32} {o : Int32 × Hp}, r_X4_tree h x0 x1 = some o → Le h o.2) {h : Hp} {H : Heap} {locs : List Loc} (hkm : Km h0 h) (hW : Wx X h H) (hZ : va_S (aA (eB X)) s.heap H locs) (ls : Array Slot) (hl : lv_has ls 3 []) (hE : sX4_reply_48 F r_X4_attempt r_X4_reply r_X4_goOn r_X4_branch r_X4_tree h  = some o) : W p l e (rm (d + 1 + 6) ((d + 1) * 27 + 161)) s m args below meth c H locs 0 0 (MQ below (QI X h0 o.1 o.2) args s 0 0 (aA (eB X))) (F0 m 48 ls []) := by
  refine lv_iconst (v := (0 : Int32)) C.1 C.2.1 dX4_reply_48 (by decide) ?_
  refine lv_goto (tgt := 53) C.1 C.2.1 dX4_reply_49 (by decide) ?_
  exact bX4_reply_53 C hr_X4_attempt hr_X4_reply hr_X4_goOn hr_X4_branch hr_X4_tree mr_X4_attempt mr_X4_reply mr_X4_goOn mr_X4_branch mr_X4_tree hkm hW hZ _ (lv_sub hl [] rfl) hE
set_option maxRecDepth 20000 in
theorem bX4_reply_52 {p : Program} {l : Launch} {e : Env} {s : State} {m : MethodId} {args : Array Value} {below : List Frame} {meth : Method} {c : Code} {X : Ec} {h0 : Hp} {o : Int32 × Hp} {d : Nat} {r_X4_attempt : Hp → Nat → Int32 → Int32 → Option (Int32 × Hp)} {r_X4_reply : Hp → Nat → Int32 → Option (Int32 × Hp)} {r_X4_goOn : Hp → Nat → Int32 → Option (Int32 × Hp)} {r_X4_branch : Hp → Nat → Int32 → Int32 → Option (Int32 × Hp)} {r_X4_tree : Hp → Nat → Int32 → Option (Int32 × Hp)} {F : Nat} (C : Cx X p s m args meth c RX4 cX4_reply 3 (some .int) "reply") (hr_X4_attempt : ∀ {h : Hp} {x0 : Nat} {x1 : Int32} {x2 : Int32} {o : Int32 × Hp}, hK h x0 = 4 → r_X4_attempt h x0 x1 x2 = some o → MetI l yX4_attempt cX4_attempt 6 (some .int)  (d + 6) (d * 27 + 161) X [.ref x0, .int x1, .int x2] h o) (hr_X4_reply : ∀ {h : Hp} {x0 : Nat} {x1 : Int32} {o : Int32 × Hp}, hK h x0 = 4 → r_X4_reply h x0 x1 = some o → MetI l yX4_reply cX4_reply 3 (some .int)  (d + 6) (d * 27 + 161) X [.ref x0, .int x1] h o) (hr_X4_goOn : ∀ {h : Hp} {x0 : Nat} {x1 : Int32} {o : Int32 × Hp}, hK h x0 = 4 → r_X4_goOn h x0 x1 = some o → MetI l yX4_goOn cX4_goOn 3 (some .int)  (d + 6) (d * 27 + 161) X [.ref x0, .int x1] h o) (hr_X4_branch : ∀ {h : Hp} {x0 : Nat} {x1 : Int32} {x2 : Int32} {o : Int32 × Hp}, hK h x0 = 4 → r_X4_branch h x0 x1 x2 = some o → MetI l yX4_branch cX4_branch 3 (some .int)  (d + 6) (d * 27 + 161) X [.ref x0, .int x1, .int x2] h o) (hr_X4_tree : ∀ {h : Hp} {x0 : Nat} {x1 : Int32} {o : Int32 × Hp}, hK h x0 = 4 → r_X4_tree h x0 x1 = some o → MetI l yX4_tree cX4_tree 8 (some .int)  (d + 6) (d * 27 + 161) X [.ref x0, .int x1] h o) (mr_X4_attempt : ∀ {h : Hp} {x0 : Nat} {x1 : Int32} {x2 : Int32} {o : Int32 × Hp}, r_X4_attempt h x0 x1 x2 = some o → Le h o.2) (mr_X4_reply : ∀ {h : Hp} {x0 : Nat} {x1 : Int32} {o : Int32 × Hp}, r_X4_reply h x0 x1 = some o → Le h o.2) (mr_X4_goOn : ∀ {h : Hp} {x0 : Nat} {x1 : Int32} {o : Int32 × Hp}, r_X4_goOn h x0 x1 = some o → Le h o.2) (mr_X4_branch : ∀ {h : Hp} {x0 : Nat} {x1 : Int32} {x2 : Int32} {o : Int32 × Hp}, r_X4_branch h x0 x1 x2 = some o → Le h o.2) (mr_X4_tree : ∀ {h : Hp} {x0 : Nat} {x1 : Int32} {o : Int32 × Hp}, r_X4_tree h x0 x1 = some o → Le h o.2) {h : Hp} {H : Heap} {locs : List Loc} (hkm : Km h0 h) (hW : Wx X h H) (hZ : va_S (aA (eB X)) s.heap H locs) (ls : Array Slot) (hl : lv_has ls 3 []) (hE : sX4_reply_52 F r_X4_attempt r_X4_reply r_X4_goOn r_X4_branch r_X4_tree h  = some o) : W p l e (rm (d + 1 + 6) ((d + 1) * 27 + 161)) s m args below meth c H locs 0 0 (MQ below (QI X h0 o.1 o.2) args s 0 0 (aA (eB X))) (F0 m 52 ls []) := by
  refine lv_iconst (v := (1 : Int32)) C.1 C.2.1 dX4_reply_52 (by decide) ?_
  exact bX4_reply_53 C hr_X4_attempt hr_X4_reply hr_X4_goOn hr_X4_branch hr_X4_tree mr_X4_attempt mr_X4_reply mr_X4_goOn mr_X4_branch mr_X4_tree hkm hW hZ _ (lv_sub hl [] rfl) hE
set_option maxRecDepth 20000 in
theorem bX4_reply_25 {p : Program} {l : Launch} {e : Env} {s : State} {m : MethodId} {args : Array Value} {below : List Frame} {meth : Method} {c : Code} {X : Ec} {h0 : Hp} {o : Int32 × Hp} {d : Nat} {r_X4_attempt : Hp → Nat → Int32 → Int32 → Option (Int32 × Hp)} {r_X4_reply : Hp → Nat → Int32 → Option (Int32 × Hp)} {r_X4_goOn : Hp → Nat → Int32 → Option (Int32 × Hp)} {r_X4_branch : Hp → Nat → Int32 → Int32 → Option (Int32 × Hp)} {r_X4_tree : Hp → Nat → Int32 → Option (Int32 × Hp)} {F : Nat} (C : Cx X p s m args meth c RX4 cX4_reply 3 (some .int) "reply") (hr_X4_attempt : ∀ {h : Hp} {x0 : Nat} {x1 : Int32} {x2 : Int32} {o : Int32 × Hp}, hK h x0 = 4 → r_X4_attempt h x0 x1 x2 = some o → MetI l yX4_attempt cX4_attempt 6 (some .int)  (d + 6) (d * 27 + 161) X [.ref x0, .int x1, .int x2] h o) (hr_X4_reply : ∀ {h : Hp} {x0 : Nat} {x1 : Int32} {o : Int32 × Hp}, hK h x0 = 4 → r_X4_reply h x0 x1 = some o → MetI l yX4_reply cX4_reply 3 (some .int)  (d + 6) (d * 27 + 161) X [.ref x0, .int x1] h o) (hr_X4_goOn : ∀ {h : Hp} {x0 : Nat} {x1 : Int32} {o : Int32 × Hp}, hK h x0 = 4 → r_X4_goOn h x0 x1 = some o → MetI l yX4_goOn cX4_goOn 3 (some .int)  (d + 6) (d * 27 + 161) X [.ref x0, .int x1] h o) (hr_X4_branch : ∀ {h : Hp} {x0 : Nat} {x1 : Int32} {x2 : Int32} {o : Int32 × Hp}, hK h x0 = 4 → r_X4_branch h x0 x1 x2 = some o → MetI l yX4_branch cX4_branch 3 (some .int)  (d + 6) (d * 27 + 161) X [.ref x0, .int x1, .int x2] h o) (hr_X4_tree : ∀ {h : Hp} {x0 : Nat} {x1 : Int32} {o : Int32 × Hp}, hK h x0 = 4 → r_X4_tree h x0 x1 = some o → MetI l yX4_tree cX4_tree 8 (some .int)  (d + 6) (d * 27 + 161) X [.ref x0, .int x1] h o) (mr_X4_attempt : ∀ {h : Hp} {x0 : Nat} {x1 : Int32} {x2 : Int32} {o : Int32 × Hp}, r_X4_attempt h x0 x1 x2 = some o → Le h o.2) (mr_X4_reply : ∀ {h : Hp} {x0 : Nat} {x1 : Int32} {o : Int32 × Hp}, r_X4_reply h x0 x1 = some o → Le h o.2) (mr_X4_goOn : ∀ {h : Hp} {x0 : Nat} {x1 : Int32} {o : Int32 × Hp}, r_X4_goOn h x0 x1 = some o → Le h o.2) (mr_X4_branch : ∀ {h : Hp} {x0 : Nat} {x1 : Int32} {x2 : Int32} {o : Int32 × Hp}, r_X4_branch h x0 x1 x2 = some o → Le h o.2) (mr_X4_tree : ∀ {h : Hp} {x0 : Nat} {x1 : Int32} {o : Int32 × Hp}, r_X4_tree h x0 x1 = some o → Le h o.2) {h : Hp} {x0 : Nat} {x1 : Int32} {t0 : Int32} {H : Heap} {locs : List Loc} (k_x0 : hK h x0 = 4) (hkm : Km h0 h) (hW : Wx X h H) (hZ : va_S (aA (eB X)) s.heap H locs) (ls : Array Slot) (hl : lv_has ls 3 [(0, .ref x0), (1, .int x1)]) (hE : sX4_reply_25 F r_X4_attempt r_X4_reply r_X4_goOn r_X4_branch r_X4_tree h x0 x1 t0 = some o) : W p l e (rm (d + 1 + 6) ((d + 1) * 27 + 161)) s m args below meth c H locs 0 0 (MQ below (QI X h0 o.1 o.2) args s 0 0 (aA (eB X))) (F0 m 25 ls [.int t0]) := by
  refine lv_istore_n (lv' := [(2, .int t0), (0, .ref x0), (1, .int x1)]) C.1 C.2.1 dX4_reply_25 rfl hl (by decide) rfl (fun ls hl => ?_)
  refine lv_iload_n C.1 C.2.1 dX4_reply_26 rfl (lv_at hl 0 rfl) ?_
  refine lv_if_ne (tgt := 48) C.1 C.2.1 dX4_reply_27 (by decide) (fun c_1 => ?_) (fun c_1 => ?_)
  · have hE := br_n hE c_1
    exact bX4_reply_48 C hr_X4_attempt hr_X4_reply hr_X4_goOn hr_X4_branch hr_X4_tree mr_X4_attempt mr_X4_reply mr_X4_goOn mr_X4_branch mr_X4_tree hkm hW hZ _ (lv_sub hl [] rfl) hE
  · have hE := br_p hE c_1
    refine lv_aload_n C.1 C.2.1 dX4_reply_30 rfl (lv_at hl 1 rfl) ?_
    refine gf_X4_50 C hW k_x0 dX4_reply_31 ?_
    refine lv_iconst (v := (1 : Int32)) C.1 C.2.1 dX4_reply_34 (by decide) ?_
    refine lv_icmp_ne (tgt := 52) C.1 C.2.1 dX4_reply_35 (by decide) (fun c_2 => ?_) (fun c_2 => ?_)
    · have hE := br_n hE c_2
      exact bX4_reply_52 C hr_X4_attempt hr_X4_reply hr_X4_goOn hr_X4_branch hr_X4_tree mr_X4_attempt mr_X4_reply mr_X4_goOn mr_X4_branch mr_X4_tree hkm hW hZ _ (lv_sub hl [] rfl) hE
    · have hE := br_p hE c_2
      refine lv_aload_n C.1 C.2.1 dX4_reply_38 rfl (lv_at hl 1 rfl) ?_
      refine lv_iload_n C.1 C.2.1 dX4_reply_39 rfl (lv_at hl 2 rfl) ?_
      refine lv_iconst (v := (1 : Int32)) C.1 C.2.1 dX4_reply_40 (by decide) ?_
      refine lv_iadd C.1 C.2.1 dX4_reply_41 ?_
      obtain ⟨o_3, eo_3, hE⟩ := cl_e hE
      refine x_kI (o := o_3) (z_runV (As := [.int (x1 + (1 : Int32))]) (rest := []) C (ct_X4_isGoal l X k_x0 eo_3) cw_X4_109 hW hZ k_x0 (by decide) rfl rfl rfl hl.1 (Nat.le_of_ble_eq_true rfl) rfl dX4_reply_42 ⟨by dsimp only [rm, rmA]; omega, by dsimp only [rm, rmA]; omega⟩ ⟨Nat.le_refl _, Nat.le_refl _⟩) hZ (fun _ _ hW km hZ => ?_)
      replace hkm := hkm.tr km
      replace k_x0 := km.at k_x0 (by decide)
      refine lv_if_eq (tgt := 52) C.1 C.2.1 dX4_reply_45 (by decide) (fun c_4 => ?_) (fun c_4 => ?_)
      · have hE := br_p hE c_4
        exact bX4_reply_52 C hr_X4_attempt hr_X4_reply hr_X4_goOn hr_X4_branch hr_X4_tree mr_X4_attempt mr_X4_reply mr_X4_goOn mr_X4_branch mr_X4_tree hkm hW hZ _ (lv_sub hl [] rfl) hE
      · have hE := br_n hE c_4
        exact bX4_reply_48 C hr_X4_attempt hr_X4_reply hr_X4_goOn hr_X4_branch hr_X4_tree mr_X4_attempt mr_X4_reply mr_X4_goOn mr_X4_branch mr_X4_tree hkm hW hZ _ (lv_sub hl [] rfl) hE
set_option maxRecDepth 20000 in
theorem bX4_reply_24 {p : Program} {l : Launch} {e : Env} {s : State} {m : MethodId} {args : Array Value} {below : List Frame} {meth : Method} {c : Code} {X : Ec} {h0 : Hp} {o : Int32 × Hp} {d : Nat} {r_X4_attempt : Hp → Nat → Int32 → Int32 → Option (Int32 × Hp)} {r_X4_reply : Hp → Nat → Int32 → Option (Int32 × Hp)} {r_X4_goOn : Hp → Nat → Int32 → Option (Int32 × Hp)} {r_X4_branch : Hp → Nat → Int32 → Int32 → Option (Int32 × Hp)} {r_X4_tree : Hp → Nat → Int32 → Option (Int32 × Hp)} {F : Nat} (C : Cx X p s m args meth c RX4 cX4_reply 3 (some .int) "reply") (hr_X4_attempt : ∀ {h : Hp} {x0 : Nat} {x1 : Int32} {x2 : Int32} {o : Int32 × Hp}, hK h x0 = 4 → r_X4_attempt h x0 x1 x2 = some o → MetI l yX4_attempt cX4_attempt 6 (some .int)  (d + 6) (d * 27 + 161) X [.ref x0, .int x1, .int x2] h o) (hr_X4_reply : ∀ {h : Hp} {x0 : Nat} {x1 : Int32} {o : Int32 × Hp}, hK h x0 = 4 → r_X4_reply h x0 x1 = some o → MetI l yX4_reply cX4_reply 3 (some .int)  (d + 6) (d * 27 + 161) X [.ref x0, .int x1] h o) (hr_X4_goOn : ∀ {h : Hp} {x0 : Nat} {x1 : Int32} {o : Int32 × Hp}, hK h x0 = 4 → r_X4_goOn h x0 x1 = some o → MetI l yX4_goOn cX4_goOn 3 (some .int)  (d + 6) (d * 27 + 161) X [.ref x0, .int x1] h o) (hr_X4_branch : ∀ {h : Hp} {x0 : Nat} {x1 : Int32} {x2 : Int32} {o : Int32 × Hp}, hK h x0 = 4 → r_X4_branch h x0 x1 x2 = some o → MetI l yX4_branch cX4_branch 3 (some .int)  (d + 6) (d * 27 + 161) X [.ref x0, .int x1, .int x2] h o) (hr_X4_tree : ∀ {h : Hp} {x0 : Nat} {x1 : Int32} {o : Int32 × Hp}, hK h x0 = 4 → r_X4_tree h x0 x1 = some o → MetI l yX4_tree cX4_tree 8 (some .int)  (d + 6) (d * 27 + 161) X [.ref x0, .int x1] h o) (mr_X4_attempt : ∀ {h : Hp} {x0 : Nat} {x1 : Int32} {x2 : Int32} {o : Int32 × Hp}, r_X4_attempt h x0 x1 x2 = some o → Le h o.2) (mr_X4_reply : ∀ {h : Hp} {x0 : Nat} {x1 : Int32} {o : Int32 × Hp}, r_X4_reply h x0 x1 = some o → Le h o.2) (mr_X4_goOn : ∀ {h : Hp} {x0 : Nat} {x1 : Int32} {o : Int32 × Hp}, r_X4_goOn h x0 x1 = some o → Le h o.2) (mr_X4_branch : ∀ {h : Hp} {x0 : Nat} {x1 : Int32} {x2 : Int32} {o : Int32 × Hp}, r_X4_branch h x0 x1 x2 = some o → Le h o.2) (mr_X4_tree : ∀ {h : Hp} {x0 : Nat} {x1 : Int32} {o : Int32 × Hp}, r_X4_tree h x0 x1 = some o → Le h o.2) {h : Hp} {x0 : Nat} {x1 : Int32} {H : Heap} {locs : List Loc} (k_x0 : hK h x0 = 4) (hkm : Km h0 h) (hW : Wx X h H) (hZ : va_S (aA (eB X)) s.heap H locs) (ls : Array Slot) (hl : lv_has ls 3 [(0, .ref x0), (1, .int x1)]) (hE : sX4_reply_24 F r_X4_attempt r_X4_reply r_X4_goOn r_X4_branch r_X4_tree h x0 x1 = some o) : W p l e (rm (d + 1 + 6) ((d + 1) * 27 + 161)) s m args below meth c H locs 0 0 (MQ below (QI X h0 o.1 o.2) args s 0 0 (aA (eB X))) (F0 m 24 ls []) := by
  refine lv_iconst (v := (0 : Int32)) C.1 C.2.1 dX4_reply_24 (by decide) ?_
  exact bX4_reply_25 C hr_X4_attempt hr_X4_reply hr_X4_goOn hr_X4_branch hr_X4_tree mr_X4_attempt mr_X4_reply mr_X4_goOn mr_X4_branch mr_X4_tree k_x0 hkm hW hZ _ (lv_sub hl [0, 1] rfl) hE
set_option maxRecDepth 20000 in
theorem ot_X4_reply (l : Launch) (X : Ec) (F : Nat) {d : Nat} {r_X4_attempt : Hp → Nat → Int32 → Int32 → Option (Int32 × Hp)} {r_X4_reply : Hp → Nat → Int32 → Option (Int32 × Hp)} {r_X4_goOn : Hp → Nat → Int32 → Option (Int32 × Hp)} {r_X4_branch : Hp → Nat → Int32 → Int32 → Option (Int32 × Hp)} {r_X4_tree : Hp → Nat → Int32 → Option (Int32 × Hp)} (hr_X4_attempt : ∀ {h : Hp} {x0 : Nat} {x1 : Int32} {x2 : Int32} {o : Int32 × Hp}, hK h x0 = 4 → r_X4_attempt h x0 x1 x2 = some o → MetI l yX4_attempt cX4_attempt 6 (some .int)  (d + 6) (d * 27 + 161) X [.ref x0, .int x1, .int x2] h o) (hr_X4_reply : ∀ {h : Hp} {x0 : Nat} {x1 : Int32} {o : Int32 × Hp}, hK h x0 = 4 → r_X4_reply h x0 x1 = some o → MetI l yX4_reply cX4_reply 3 (some .int)  (d + 6) (d * 27 + 161) X [.ref x0, .int x1] h o) (hr_X4_goOn : ∀ {h : Hp} {x0 : Nat} {x1 : Int32} {o : Int32 × Hp}, hK h x0 = 4 → r_X4_goOn h x0 x1 = some o → MetI l yX4_goOn cX4_goOn 3 (some .int)  (d + 6) (d * 27 + 161) X [.ref x0, .int x1] h o) (hr_X4_branch : ∀ {h : Hp} {x0 : Nat} {x1 : Int32} {x2 : Int32} {o : Int32 × Hp}, hK h x0 = 4 → r_X4_branch h x0 x1 x2 = some o → MetI l yX4_branch cX4_branch 3 (some .int)  (d + 6) (d * 27 + 161) X [.ref x0, .int x1, .int x2] h o) (hr_X4_tree : ∀ {h : Hp} {x0 : Nat} {x1 : Int32} {o : Int32 × Hp}, hK h x0 = 4 → r_X4_tree h x0 x1 = some o → MetI l yX4_tree cX4_tree 8 (some .int)  (d + 6) (d * 27 + 161) X [.ref x0, .int x1] h o) (mr_X4_attempt : ∀ {h : Hp} {x0 : Nat} {x1 : Int32} {x2 : Int32} {o : Int32 × Hp}, r_X4_attempt h x0 x1 x2 = some o → Le h o.2) (mr_X4_reply : ∀ {h : Hp} {x0 : Nat} {x1 : Int32} {o : Int32 × Hp}, r_X4_reply h x0 x1 = some o → Le h o.2) (mr_X4_goOn : ∀ {h : Hp} {x0 : Nat} {x1 : Int32} {o : Int32 × Hp}, r_X4_goOn h x0 x1 = some o → Le h o.2) (mr_X4_branch : ∀ {h : Hp} {x0 : Nat} {x1 : Int32} {x2 : Int32} {o : Int32 × Hp}, r_X4_branch h x0 x1 x2 = some o → Le h o.2) (mr_X4_tree : ∀ {h : Hp} {x0 : Nat} {x1 : Int32} {o : Int32 × Hp}, r_X4_tree h x0 x1 = some o → Le h o.2) {h : Hp} {x0 : Nat} {x1 : Int32} {o : Int32 × Hp} (k_x0 : hK h x0 = 4) (hE : oX4_reply F r_X4_attempt r_X4_reply r_X4_goOn r_X4_branch r_X4_tree h x0 x1 = some o) : MetI l yX4_reply cX4_reply 3 (some .int) (d + 1 + 6) ((d + 1) * 27 + 161) X [.ref x0, .int x1] h o := by
  refine x_met (by decide) (Nat.le_of_ble_eq_true rfl) ?_
  intro p e s m below meth c ls C hl hW hZ
  have hl : lv_has ls 3 [(0, .ref x0), (1, .int x1)] := hl
  have hkm : Km h h := Km.rf h
  refine lv_iload_n C.1 C.2.1 dX4_reply_0 rfl (lv_at hl 1 rfl) ?_
  refine lv_iconst (v := (1 : Int32)) C.1 C.2.1 dX4_reply_1 (by decide) ?_
  refine lv_iadd C.1 C.2.1 dX4_reply_2 ?_
  refine lv_aload_n C.1 C.2.1 dX4_reply_3 rfl (lv_at hl 0 rfl) ?_
  refine gf_X4_56 C hW k_x0 dX4_reply_4 ?_
  refine lv_icmp_ge (tgt := 24) C.1 C.2.1 dX4_reply_7 (by decide) (fun c_1 => ?_) (fun c_1 => ?_)
  · have hE := br_p hE c_1
    exact bX4_reply_24 C hr_X4_attempt hr_X4_reply hr_X4_goOn hr_X4_branch hr_X4_tree mr_X4_attempt mr_X4_reply mr_X4_goOn mr_X4_branch mr_X4_tree k_x0 hkm hW hZ _ (lv_sub hl [0, 1] rfl) hE
  · have hE := br_n hE c_1
    refine lv_aload_n C.1 C.2.1 dX4_reply_10 rfl (lv_at hl 0 rfl) ?_
    refine lv_iload_n C.1 C.2.1 dX4_reply_11 rfl (lv_at hl 1 rfl) ?_
    refine lv_iconst (v := (1 : Int32)) C.1 C.2.1 dX4_reply_12 (by decide) ?_
    refine lv_iadd C.1 C.2.1 dX4_reply_13 ?_
    obtain ⟨o_2, eo_2, hE⟩ := cl_e hE
    refine x_kI (o := o_2) (z_runV (As := [.int (x1 + (1 : Int32))]) (rest := []) C (hr_X4_tree k_x0 eo_2) cw_X4_106 hW hZ k_x0 (by decide) rfl rfl rfl hl.1 (Nat.le_of_ble_eq_true rfl) rfl dX4_reply_14 ⟨by dsimp only [rm, rmA]; omega, by dsimp only [rm, rmA]; omega⟩ ⟨Nat.le_refl _, Nat.le_refl _⟩) hZ (fun _ _ hW km hZ => ?_)
    replace hkm := hkm.tr km
    replace k_x0 := km.at k_x0 (by decide)
    refine lv_if_le (tgt := 24) C.1 C.2.1 dX4_reply_17 (by decide) (fun c_3 => ?_) (fun c_3 => ?_)
    · have hE := br_p hE c_3
      exact bX4_reply_24 C hr_X4_attempt hr_X4_reply hr_X4_goOn hr_X4_branch hr_X4_tree mr_X4_attempt mr_X4_reply mr_X4_goOn mr_X4_branch mr_X4_tree k_x0 hkm hW hZ _ (lv_sub hl [0, 1] rfl) hE
    · have hE := br_n hE c_3
      refine lv_iconst (v := (1 : Int32)) C.1 C.2.1 dX4_reply_20 (by decide) ?_
      refine lv_goto (tgt := 25) C.1 C.2.1 dX4_reply_21 (by decide) ?_
      exact bX4_reply_25 C hr_X4_attempt hr_X4_reply hr_X4_goOn hr_X4_branch hr_X4_tree mr_X4_attempt mr_X4_reply mr_X4_goOn mr_X4_branch mr_X4_tree k_x0 hkm hW hZ _ (lv_sub hl [0, 1] rfl) hE
set_option maxRecDepth 20000 in
theorem moX4_goOn_35 {o : Int32 × Hp} {F : Nat} {r_X4_attempt : Hp → Nat → Int32 → Int32 → Option (Int32 × Hp)} {r_X4_reply : Hp → Nat → Int32 → Option (Int32 × Hp)} {r_X4_goOn : Hp → Nat → Int32 → Option (Int32 × Hp)} {r_X4_branch : Hp → Nat → Int32 → Int32 → Option (Int32 × Hp)} {r_X4_tree : Hp → Nat → Int32 → Option (Int32 × Hp)} (mr_X4_attempt : ∀ {h : Hp} {x0 : Nat} {x1 : Int32} {x2 : Int32} {o : Int32 × Hp}, r_X4_attempt h x0 x1 x2 = some o → Le h o.2) (mr_X4_reply : ∀ {h : Hp} {x0 : Nat} {x1 : Int32} {o : Int32 × Hp}, r_X4_reply h x0 x1 = some o → Le h o.2) (mr_X4_goOn : ∀ {h : Hp} {x0 : Nat} {x1 : Int32} {o : Int32 × Hp}, r_X4_goOn h x0 x1 = some o → Le h o.2) (mr_X4_branch : ∀ {h : Hp} {x0 : Nat} {x1 : Int32} {x2 : Int32} {o : Int32 × Hp}, r_X4_branch h x0 x1 x2 = some o → Le h o.2) (mr_X4_tree : ∀ {h : Hp} {x0 : Nat} {x1 : Int32} {o : Int32 × Hp}, r_X4_tree h x0 x1 = some o → Le h o.2) {h : Hp} (hE : sX4_goOn_35 F r_X4_attempt r_X4_reply r_X4_goOn r_X4_branch r_X4_tree h  = some o) : Le h o.2 := by
  exact le_some2 hE
set_option maxRecDepth 20000 in
theorem mooX4_goOn {o : Int32 × Hp} {F : Nat} {r_X4_attempt : Hp → Nat → Int32 → Int32 → Option (Int32 × Hp)} {r_X4_reply : Hp → Nat → Int32 → Option (Int32 × Hp)} {r_X4_goOn : Hp → Nat → Int32 → Option (Int32 × Hp)} {r_X4_branch : Hp → Nat → Int32 → Int32 → Option (Int32 × Hp)} {r_X4_tree : Hp → Nat → Int32 → Option (Int32 × Hp)} (mr_X4_attempt : ∀ {h : Hp} {x0 : Nat} {x1 : Int32} {x2 : Int32} {o : Int32 × Hp}, r_X4_attempt h x0 x1 x2 = some o → Le h o.2) (mr_X4_reply : ∀ {h : Hp} {x0 : Nat} {x1 : Int32} {o : Int32 × Hp}, r_X4_reply h x0 x1 = some o → Le h o.2) (mr_X4_goOn : ∀ {h : Hp} {x0 : Nat} {x1 : Int32} {o : Int32 × Hp}, r_X4_goOn h x0 x1 = some o → Le h o.2) (mr_X4_branch : ∀ {h : Hp} {x0 : Nat} {x1 : Int32} {x2 : Int32} {o : Int32 × Hp}, r_X4_branch h x0 x1 x2 = some o → Le h o.2) (mr_X4_tree : ∀ {h : Hp} {x0 : Nat} {x1 : Int32} {o : Int32 × Hp}, r_X4_tree h x0 x1 = some o → Le h o.2) {h : Hp} {x0 : Nat} {x1 : Int32} (hE : oX4_goOn F r_X4_attempt r_X4_reply r_X4_goOn r_X4_branch r_X4_tree h x0 x1 = some o) : Le h o.2 := by
  obtain ⟨r_1, er_1, hE⟩ := cl_e hE
  obtain ⟨g_2, hE⟩ := gd_e hE
  obtain ⟨r_3, er_3, hE⟩ := cl_e hE
  obtain ⟨r_4, er_4, hE⟩ := cl_e hE
  obtain ⟨g_5, hE⟩ := gd_e hE
  rcases br_e hE with ⟨_, hE⟩ | ⟨_, hE⟩
  · obtain ⟨r_7, er_7, hE⟩ := cl_e hE
    obtain ⟨o_8, eo_8, hE⟩ := cl_e hE
    refine (moX5_isRoyalHit eo_8).tr ?_
    rcases br_e hE with ⟨_, hE⟩ | ⟨_, hE⟩
    · obtain ⟨h_10, eh_10, hE⟩ := nm_e2 hE
      refine (le_I eh_10).tr ?_
      obtain ⟨o_11, eo_11, hE⟩ := cl_e hE
      refine (moX3_clearPass eo_11).tr ?_
      obtain ⟨o_12, eo_12, hE⟩ := cl_e hE
      refine (mr_X4_tree eo_12).tr ?_
      exact le_some2 hE
    · exact moX4_goOn_35 mr_X4_attempt mr_X4_reply mr_X4_goOn mr_X4_branch mr_X4_tree hE
  · exact moX4_goOn_35 mr_X4_attempt mr_X4_reply mr_X4_goOn mr_X4_branch mr_X4_tree hE
set_option maxRecDepth 20000 in
theorem bX4_goOn_35 {p : Program} {l : Launch} {e : Env} {s : State} {m : MethodId} {args : Array Value} {below : List Frame} {meth : Method} {c : Code} {X : Ec} {h0 : Hp} {o : Int32 × Hp} {d : Nat} {r_X4_attempt : Hp → Nat → Int32 → Int32 → Option (Int32 × Hp)} {r_X4_reply : Hp → Nat → Int32 → Option (Int32 × Hp)} {r_X4_goOn : Hp → Nat → Int32 → Option (Int32 × Hp)} {r_X4_branch : Hp → Nat → Int32 → Int32 → Option (Int32 × Hp)} {r_X4_tree : Hp → Nat → Int32 → Option (Int32 × Hp)} {F : Nat} (C : Cx X p s m args meth c RX4 cX4_goOn 3 (some .int) "goOn") (hr_X4_attempt : ∀ {h : Hp} {x0 : Nat} {x1 : Int32} {x2 : Int32} {o : Int32 × Hp}, hK h x0 = 4 → r_X4_attempt h x0 x1 x2 = some o → MetI l yX4_attempt cX4_attempt 6 (some .int)  (d + 6) (d * 27 + 161) X [.ref x0, .int x1, .int x2] h o) (hr_X4_reply : ∀ {h : Hp} {x0 : Nat} {x1 : Int32} {o : Int32 × Hp}, hK h x0 = 4 → r_X4_reply h x0 x1 = some o → MetI l yX4_reply cX4_reply 3 (some .int)  (d + 6) (d * 27 + 161) X [.ref x0, .int x1] h o) (hr_X4_goOn : ∀ {h : Hp} {x0 : Nat} {x1 : Int32} {o : Int32 × Hp}, hK h x0 = 4 → r_X4_goOn h x0 x1 = some o → MetI l yX4_goOn cX4_goOn 3 (some .int)  (d + 6) (d * 27 + 161) X [.ref x0, .int x1] h o) (hr_X4_branch : ∀ {h : Hp} {x0 : Nat} {x1 : Int32} {x2 : Int32} {o : Int32 × Hp}, hK h x0 = 4 → r_X4_branch h x0 x1 x2 = some o → MetI l yX4_branch cX4_branch 3 (some .int)  (d + 6) (d * 27 + 161) X [.ref x0, .int x1, .int x2] h o) (hr_X4_tree : ∀ {h : Hp} {x0 : Nat} {x1 : Int32} {o : Int32 × Hp}, hK h x0 = 4 → r_X4_tree h x0 x1 = some o → MetI l yX4_tree cX4_tree 8 (some .int)  (d + 6) (d * 27 + 161) X [.ref x0, .int x1] h o) (mr_X4_attempt : ∀ {h : Hp} {x0 : Nat} {x1 : Int32} {x2 : Int32} {o : Int32 × Hp}, r_X4_attempt h x0 x1 x2 = some o → Le h o.2) (mr_X4_reply : ∀ {h : Hp} {x0 : Nat} {x1 : Int32} {o : Int32 × Hp}, r_X4_reply h x0 x1 = some o → Le h o.2) (mr_X4_goOn : ∀ {h : Hp} {x0 : Nat} {x1 : Int32} {o : Int32 × Hp}, r_X4_goOn h x0 x1 = some o → Le h o.2) (mr_X4_branch : ∀ {h : Hp} {x0 : Nat} {x1 : Int32} {x2 : Int32} {o : Int32 × Hp}, r_X4_branch h x0 x1 x2 = some o → Le h o.2) (mr_X4_tree : ∀ {h : Hp} {x0 : Nat} {x1 : Int32} {o : Int32 × Hp}, r_X4_tree h x0 x1 = some o → Le h o.2) {h : Hp} {H : Heap} {locs : List Loc} (hkm : Km h0 h) (hW : Wx X h H) (hZ : va_S (aA (eB X)) s.heap H locs) (ls : Array Slot) (hl : lv_has ls 3 []) (hE : sX4_goOn_35 F r_X4_attempt r_X4_reply r_X4_goOn r_X4_branch r_X4_tree h  = some o) : W p l e (rm (d + 1 + 6) ((d + 1) * 27 + 161)) s m args below meth c H locs 0 0 (MQ below (QI X h0 o.1 o.2) args s 0 0 (aA (eB X))) (F0 m 35 ls []) := by
  refine lv_iconst (v := (0 : Int32)) C.1 C.2.1 dX4_goOn_35 (by decide) ?_
  exact x_iret C rfl rfl hW hZ hkm hE dX4_goOn_36
set_option maxRecDepth 20000 in
theorem ot_X4_goOn (l : Launch) (X : Ec) (F : Nat) {d : Nat} {r_X4_attempt : Hp → Nat → Int32 → Int32 → Option (Int32 × Hp)} {r_X4_reply : Hp → Nat → Int32 → Option (Int32 × Hp)} {r_X4_goOn : Hp → Nat → Int32 → Option (Int32 × Hp)} {r_X4_branch : Hp → Nat → Int32 → Int32 → Option (Int32 × Hp)} {r_X4_tree : Hp → Nat → Int32 → Option (Int32 × Hp)} (hr_X4_attempt : ∀ {h : Hp} {x0 : Nat} {x1 : Int32} {x2 : Int32} {o : Int32 × Hp}, hK h x0 = 4 → r_X4_attempt h x0 x1 x2 = some o → MetI l yX4_attempt cX4_attempt 6 (some .int)  (d + 6) (d * 27 + 161) X [.ref x0, .int x1, .int x2] h o) (hr_X4_reply : ∀ {h : Hp} {x0 : Nat} {x1 : Int32} {o : Int32 × Hp}, hK h x0 = 4 → r_X4_reply h x0 x1 = some o → MetI l yX4_reply cX4_reply 3 (some .int)  (d + 6) (d * 27 + 161) X [.ref x0, .int x1] h o) (hr_X4_goOn : ∀ {h : Hp} {x0 : Nat} {x1 : Int32} {o : Int32 × Hp}, hK h x0 = 4 → r_X4_goOn h x0 x1 = some o → MetI l yX4_goOn cX4_goOn 3 (some .int)  (d + 6) (d * 27 + 161) X [.ref x0, .int x1] h o) (hr_X4_branch : ∀ {h : Hp} {x0 : Nat} {x1 : Int32} {x2 : Int32} {o : Int32 × Hp}, hK h x0 = 4 → r_X4_branch h x0 x1 x2 = some o → MetI l yX4_branch cX4_branch 3 (some .int)  (d + 6) (d * 27 + 161) X [.ref x0, .int x1, .int x2] h o) (hr_X4_tree : ∀ {h : Hp} {x0 : Nat} {x1 : Int32} {o : Int32 × Hp}, hK h x0 = 4 → r_X4_tree h x0 x1 = some o → MetI l yX4_tree cX4_tree 8 (some .int)  (d + 6) (d * 27 + 161) X [.ref x0, .int x1] h o) (mr_X4_attempt : ∀ {h : Hp} {x0 : Nat} {x1 : Int32} {x2 : Int32} {o : Int32 × Hp}, r_X4_attempt h x0 x1 x2 = some o → Le h o.2) (mr_X4_reply : ∀ {h : Hp} {x0 : Nat} {x1 : Int32} {o : Int32 × Hp}, r_X4_reply h x0 x1 = some o → Le h o.2) (mr_X4_goOn : ∀ {h : Hp} {x0 : Nat} {x1 : Int32} {o : Int32 × Hp}, r_X4_goOn h x0 x1 = some o → Le h o.2) (mr_X4_branch : ∀ {h : Hp} {x0 : Nat} {x1 : Int32} {x2 : Int32} {o : Int32 × Hp}, r_X4_branch h x0 x1 x2 = some o → Le h o.2) (mr_X4_tree : ∀ {h : Hp} {x0 : Nat} {x1 : Int32} {o : Int32 × Hp}, r_X4_tree h x0 x1 = some o → Le h o.2) {h : Hp} {x0 : Nat} {x1 : Int32} {o : Int32 × Hp} (k_x0 : hK h x0 = 4) (hE : oX4_goOn F r_X4_attempt r_X4_reply r_X4_goOn r_X4_branch r_X4_tree h x0 x1 = some o) : MetI l yX4_goOn cX4_goOn 3 (some .int) (d + 1 + 6) ((d + 1) * 27 + 161) X [.ref x0, .int x1] h o := by
  refine x_met (by decide) (Nat.le_of_ble_eq_true rfl) ?_
  intro p e s m below meth c ls C hl hW hZ
  have hl : lv_has ls 3 [(0, .ref x0), (1, .int x1)] := hl
  have hkm : Km h h := Km.rf h
  refine lv_aload_n C.1 C.2.1 dX4_goOn_0 rfl (lv_at hl 0 rfl) ?_
  obtain ⟨r_1, er_1, hE⟩ := cl_e hE
  refine gf_X4_13 C hW k_x0 er_1 dX4_goOn_1 (fun k_r_1 => ?_)
  refine lv_iload_n C.1 C.2.1 dX4_goOn_4 rfl (lv_at hl 1 rfl) ?_
  refine lv_iconst (v := (1 : Int32)) C.1 C.2.1 dX4_goOn_5 (by decide) ?_
  refine lv_iadd C.1 C.2.1 dX4_goOn_6 ?_
  obtain ⟨g_2, hE⟩ := gd_e hE
  obtain ⟨r_3, er_3, hE⟩ := cl_e hE
  refine y_aald (t0 := 4) C hW k_r_1 (by decide) (by decide) rfl rfl rfl (fun _ => rfl) g_2 er_3 dX4_goOn_7 (fun k_r_3 => ?_)
  refine lv_astore_n (lv' := [(2, .ref r_3), (0, .ref x0), (1, .int x1)]) C.1 C.2.1 dX4_goOn_8 rfl hl (by decide) rfl (fun ls hl => ?_)
  refine lv_aload_n C.1 C.2.1 dX4_goOn_9 rfl (lv_at hl 1 rfl) ?_
  obtain ⟨r_4, er_4, hE⟩ := cl_e hE
  refine gf_X4_22 C hW k_x0 er_4 dX4_goOn_10 (fun k_r_4 => ?_)
  refine lv_iload_n C.1 C.2.1 dX4_goOn_13 rfl (lv_at hl 2 rfl) ?_
  refine lv_iconst (v := (1 : Int32)) C.1 C.2.1 dX4_goOn_14 (by decide) ?_
  refine lv_iadd C.1 C.2.1 dX4_goOn_15 ?_
  obtain ⟨g_5, hE⟩ := gd_e hE
  refine y_iald C hW k_r_4 g_5 dX4_goOn_16 ?_
  refine lv_if_ne (tgt := 35) C.1 C.2.1 dX4_goOn_17 (by decide) (fun c_6 => ?_) (fun c_6 => ?_)
  · have hE := br_n hE c_6
    exact bX4_goOn_35 C hr_X4_attempt hr_X4_reply hr_X4_goOn hr_X4_branch hr_X4_tree mr_X4_attempt mr_X4_reply mr_X4_goOn mr_X4_branch mr_X4_tree hkm hW hZ _ (lv_sub hl [] rfl) hE
  · have hE := br_p hE c_6
    refine lv_aload_n C.1 C.2.1 dX4_goOn_20 rfl (lv_at hl 1 rfl) ?_
    obtain ⟨r_7, er_7, hE⟩ := cl_e hE
    refine gf_X4_45 C hW k_x0 er_7 dX4_goOn_21 (fun k_r_7 => ?_)
    refine lv_aload_n C.1 C.2.1 dX4_goOn_24 rfl (lv_at hl 0 rfl) ?_
    refine lv_aload_n C.1 C.2.1 dX4_goOn_25 rfl (lv_at hl 0 rfl) ?_
    refine gf_X4_116 C hW k_r_3 dX4_goOn_26 ?_
    obtain ⟨o_8, eo_8, hE⟩ := cl_e hE
    refine x_kI (o := o_8) (z_runV (As := [.ref r_3, .int (hI h r_3 5)]) (rest := []) C (ct_X5_isRoyalHit l X F k_r_7 k_r_3 eo_8) cw_X4_119 hW hZ k_r_7 (by decide) rfl rfl rfl hl.1 (Nat.le_of_ble_eq_true rfl) rfl dX4_goOn_29 ⟨by dsimp only [rm, rmA]; omega, by dsimp only [rm, rmA]; omega⟩ ⟨Nat.le_refl _, Nat.le_refl _⟩) hZ (fun _ _ hW km hZ => ?_)
    replace hkm := hkm.tr km
    replace k_r_3 := km.at k_r_3 (by decide)
    replace k_x0 := km.at k_x0 (by decide)
    refine lv_if_eq (tgt := 37) C.1 C.2.1 dX4_goOn_32 (by decide) (fun c_9 => ?_) (fun c_9 => ?_)
    · have hE := br_p hE c_9
      refine lv_aload_n C.1 C.2.1 dX4_goOn_37 rfl (lv_at hl 0 rfl) ?_
      refine lv_iconst (v := (1 : Int32)) C.1 C.2.1 dX4_goOn_38 (by decide) ?_
      refine lv_aload_n C.1 C.2.1 dX4_goOn_39 rfl (lv_at hl 0 rfl) ?_
      refine gf_X4_116 C hW k_r_3 dX4_goOn_40 ?_
      refine lv_isub C.1 C.2.1 dX4_goOn_43 ?_
      obtain ⟨h_10, eh_10, hE⟩ := nm_e2 hE
      refine pf_X4_116 C hW hZ k_r_3 eh_10 dX4_goOn_44 (fun _ _ hW km hZ => ?_)
      replace hkm := hkm.tr km
      replace k_r_3 := km.at k_r_3 (by decide)
      replace k_x0 := km.at k_x0 (by decide)
      refine lv_aload_n C.1 C.2.1 dX4_goOn_47 rfl (lv_at hl 0 rfl) ?_
      obtain ⟨o_11, eo_11, hE⟩ := cl_e hE
      refine x_kV (o := o_11) (z_runV (As := []) (rest := []) C (ct_X3_clearPass l X k_r_3 eo_11) cw_X4_123 hW hZ k_r_3 (by decide) rfl rfl rfl hl.1 (Nat.le_of_ble_eq_true rfl) rfl dX4_goOn_48 ⟨by dsimp only [rm, rmA]; omega, by dsimp only [rm, rmA]; omega⟩ ⟨Nat.le_refl _, Nat.le_refl _⟩) hZ (fun _ _ hW km hZ => ?_)
      replace hkm := hkm.tr km
      replace k_r_3 := km.at k_r_3 (by decide)
      replace k_x0 := km.at k_x0 (by decide)
      refine lv_aload_n C.1 C.2.1 dX4_goOn_51 rfl (lv_at hl 1 rfl) ?_
      refine lv_iload_n C.1 C.2.1 dX4_goOn_52 rfl (lv_at hl 2 rfl) ?_
      refine lv_iconst (v := (1 : Int32)) C.1 C.2.1 dX4_goOn_53 (by decide) ?_
      refine lv_iadd C.1 C.2.1 dX4_goOn_54 ?_
      obtain ⟨o_12, eo_12, hE⟩ := cl_e hE
      refine x_kI (o := o_12) (z_runV (As := [.int (x1 + (1 : Int32))]) (rest := []) C (hr_X4_tree k_x0 eo_12) cw_X4_106 hW hZ k_x0 (by decide) rfl rfl rfl hl.1 (Nat.le_of_ble_eq_true rfl) rfl dX4_goOn_55 ⟨by dsimp only [rm, rmA]; omega, by dsimp only [rm, rmA]; omega⟩ ⟨Nat.le_refl _, Nat.le_refl _⟩) hZ (fun _ _ hW km hZ => ?_)
      replace hkm := hkm.tr km
      replace k_r_3 := km.at k_r_3 (by decide)
      replace k_x0 := km.at k_x0 (by decide)
      exact x_iret C rfl rfl hW hZ hkm hE dX4_goOn_58
    · have hE := br_n hE c_9
      exact bX4_goOn_35 C hr_X4_attempt hr_X4_reply hr_X4_goOn hr_X4_branch hr_X4_tree mr_X4_attempt mr_X4_reply mr_X4_goOn mr_X4_branch mr_X4_tree hkm hW hZ _ (lv_sub hl [] rfl) hE
set_option maxRecDepth 20000 in
theorem moX4_branch_56 {o : Int32 × Hp} {F : Nat} {r_X4_attempt : Hp → Nat → Int32 → Int32 → Option (Int32 × Hp)} {r_X4_reply : Hp → Nat → Int32 → Option (Int32 × Hp)} {r_X4_goOn : Hp → Nat → Int32 → Option (Int32 × Hp)} {r_X4_branch : Hp → Nat → Int32 → Int32 → Option (Int32 × Hp)} {r_X4_tree : Hp → Nat → Int32 → Option (Int32 × Hp)} (mr_X4_attempt : ∀ {h : Hp} {x0 : Nat} {x1 : Int32} {x2 : Int32} {o : Int32 × Hp}, r_X4_attempt h x0 x1 x2 = some o → Le h o.2) (mr_X4_reply : ∀ {h : Hp} {x0 : Nat} {x1 : Int32} {o : Int32 × Hp}, r_X4_reply h x0 x1 = some o → Le h o.2) (mr_X4_goOn : ∀ {h : Hp} {x0 : Nat} {x1 : Int32} {o : Int32 × Hp}, r_X4_goOn h x0 x1 = some o → Le h o.2) (mr_X4_branch : ∀ {h : Hp} {x0 : Nat} {x1 : Int32} {x2 : Int32} {o : Int32 × Hp}, r_X4_branch h x0 x1 x2 = some o → Le h o.2) (mr_X4_tree : ∀ {h : Hp} {x0 : Nat} {x1 : Int32} {o : Int32 × Hp}, r_X4_tree h x0 x1 = some o → Le h o.2) {h : Hp} {t0 : Int32} (hE : sX4_branch_56 F r_X4_attempt r_X4_reply r_X4_goOn r_X4_branch r_X4_tree h  t0 = some o) : Le h o.2 := by
  exact le_some2 hE
set_option maxRecDepth 20000 in
theorem moX4_branch_92 {o : Int32 × Hp} {F : Nat} {r_X4_attempt : Hp → Nat → Int32 → Int32 → Option (Int32 × Hp)} {r_X4_reply : Hp → Nat → Int32 → Option (Int32 × Hp)} {r_X4_goOn : Hp → Nat → Int32 → Option (Int32 × Hp)} {r_X4_branch : Hp → Nat → Int32 → Int32 → Option (Int32 × Hp)} {r_X4_tree : Hp → Nat → Int32 → Option (Int32 × Hp)} (mr_X4_attempt : ∀ {h : Hp} {x0 : Nat} {x1 : Int32} {x2 : Int32} {o : Int32 × Hp}, r_X4_attempt h x0 x1 x2 = some o → Le h o.2) (mr_X4_reply : ∀ {h : Hp} {x0 : Nat} {x1 : Int32} {o : Int32 × Hp}, r_X4_reply h x0 x1 = some o → Le h o.2) (mr_X4_goOn : ∀ {h : Hp} {x0 : Nat} {x1 : Int32} {o : Int32 × Hp}, r_X4_goOn h x0 x1 = some o → Le h o.2) (mr_X4_branch : ∀ {h : Hp} {x0 : Nat} {x1 : Int32} {x2 : Int32} {o : Int32 × Hp}, r_X4_branch h x0 x1 x2 = some o → Le h o.2) (mr_X4_tree : ∀ {h : Hp} {x0 : Nat} {x1 : Int32} {o : Int32 × Hp}, r_X4_tree h x0 x1 = some o → Le h o.2) {h : Hp} {t0 : Int32} (hE : sX4_branch_92 F r_X4_attempt r_X4_reply r_X4_goOn r_X4_branch r_X4_tree h  t0 = some o) : Le h o.2 := by
  exact le_some2 hE
set_option maxRecDepth 20000 in
theorem moX4_branch_126 {o : Int32 × Hp} {F : Nat} {r_X4_attempt : Hp → Nat → Int32 → Int32 → Option (Int32 × Hp)} {r_X4_reply : Hp → Nat → Int32 → Option (Int32 × Hp)} {r_X4_goOn : Hp → Nat → Int32 → Option (Int32 × Hp)} {r_X4_branch : Hp → Nat → Int32 → Int32 → Option (Int32 × Hp)} {r_X4_tree : Hp → Nat → Int32 → Option (Int32 × Hp)} (mr_X4_attempt : ∀ {h : Hp} {x0 : Nat} {x1 : Int32} {x2 : Int32} {o : Int32 × Hp}, r_X4_attempt h x0 x1 x2 = some o → Le h o.2) (mr_X4_reply : ∀ {h : Hp} {x0 : Nat} {x1 : Int32} {o : Int32 × Hp}, r_X4_reply h x0 x1 = some o → Le h o.2) (mr_X4_goOn : ∀ {h : Hp} {x0 : Nat} {x1 : Int32} {o : Int32 × Hp}, r_X4_goOn h x0 x1 = some o → Le h o.2) (mr_X4_branch : ∀ {h : Hp} {x0 : Nat} {x1 : Int32} {x2 : Int32} {o : Int32 × Hp}, r_X4_branch h x0 x1 x2 = some o → Le h o.2) (mr_X4_tree : ∀ {h : Hp} {x0 : Nat} {x1 : Int32} {o : Int32 × Hp}, r_X4_tree h x0 x1 = some o → Le h o.2) {h : Hp} {t0 : Int32} (hE : sX4_branch_126 F r_X4_attempt r_X4_reply r_X4_goOn r_X4_branch r_X4_tree h  t0 = some o) : Le h o.2 := by
  exact le_some2 hE
set_option maxRecDepth 20000 in
theorem mooX4_branch {o : Int32 × Hp} {F : Nat} {r_X4_attempt : Hp → Nat → Int32 → Int32 → Option (Int32 × Hp)} {r_X4_reply : Hp → Nat → Int32 → Option (Int32 × Hp)} {r_X4_goOn : Hp → Nat → Int32 → Option (Int32 × Hp)} {r_X4_branch : Hp → Nat → Int32 → Int32 → Option (Int32 × Hp)} {r_X4_tree : Hp → Nat → Int32 → Option (Int32 × Hp)} (mr_X4_attempt : ∀ {h : Hp} {x0 : Nat} {x1 : Int32} {x2 : Int32} {o : Int32 × Hp}, r_X4_attempt h x0 x1 x2 = some o → Le h o.2) (mr_X4_reply : ∀ {h : Hp} {x0 : Nat} {x1 : Int32} {o : Int32 × Hp}, r_X4_reply h x0 x1 = some o → Le h o.2) (mr_X4_goOn : ∀ {h : Hp} {x0 : Nat} {x1 : Int32} {o : Int32 × Hp}, r_X4_goOn h x0 x1 = some o → Le h o.2) (mr_X4_branch : ∀ {h : Hp} {x0 : Nat} {x1 : Int32} {x2 : Int32} {o : Int32 × Hp}, r_X4_branch h x0 x1 x2 = some o → Le h o.2) (mr_X4_tree : ∀ {h : Hp} {x0 : Nat} {x1 : Int32} {o : Int32 × Hp}, r_X4_tree h x0 x1 = some o → Le h o.2) {h : Hp} {x0 : Nat} {x1 : Int32} {x2 : Int32} (hE : oX4_branch F r_X4_attempt r_X4_reply r_X4_goOn r_X4_branch r_X4_tree h x0 x1 x2 = some o) : Le h o.2 := by
  rcases br_e hE with ⟨_, hE⟩ | ⟨_, hE⟩
  · rcases br_e hE with ⟨_, hE⟩ | ⟨_, hE⟩
    · obtain ⟨o_3, eo_3, hE⟩ := cl_e hE
      refine (mr_X4_attempt eo_3).tr ?_
      exact moX4_branch_56 mr_X4_attempt mr_X4_reply mr_X4_goOn mr_X4_branch mr_X4_tree hE
    · obtain ⟨o_2, eo_2, hE⟩ := cl_e hE
      refine (mr_X4_reply eo_2).tr ?_
      exact moX4_branch_56 mr_X4_attempt mr_X4_reply mr_X4_goOn mr_X4_branch mr_X4_tree hE
  rcases br_e hE with ⟨_, hE⟩ | ⟨_, hE⟩
  · rcases br_e hE with ⟨_, hE⟩ | ⟨_, hE⟩
    · obtain ⟨o_7, eo_7, hE⟩ := cl_e hE
      refine (mr_X4_attempt eo_7).tr ?_
      exact moX4_branch_56 mr_X4_attempt mr_X4_reply mr_X4_goOn mr_X4_branch mr_X4_tree hE
    · obtain ⟨o_6, eo_6, hE⟩ := cl_e hE
      refine (mr_X4_reply eo_6).tr ?_
      exact moX4_branch_56 mr_X4_attempt mr_X4_reply mr_X4_goOn mr_X4_branch mr_X4_tree hE
  rcases br_e hE with ⟨_, hE⟩ | ⟨_, hE⟩
  · rcases br_e hE with ⟨_, hE⟩ | ⟨_, hE⟩
    · obtain ⟨o_10, eo_10, hE⟩ := cl_e hE
      refine (moX4_isGoal eo_10).tr ?_
      rcases br_e hE with ⟨_, hE⟩ | ⟨_, hE⟩
      · exact moX4_branch_92 mr_X4_attempt mr_X4_reply mr_X4_goOn mr_X4_branch mr_X4_tree hE
      · exact moX4_branch_92 mr_X4_attempt mr_X4_reply mr_X4_goOn mr_X4_branch mr_X4_tree hE
    · obtain ⟨o_12, eo_12, hE⟩ := cl_e hE
      refine (mr_X4_tree eo_12).tr ?_
      exact moX4_branch_92 mr_X4_attempt mr_X4_reply mr_X4_goOn mr_X4_branch mr_X4_tree hE
  rcases br_e hE with ⟨_, hE⟩ | ⟨_, hE⟩
  · rcases br_e hE with ⟨_, hE⟩ | ⟨_, hE⟩
    · obtain ⟨o_15, eo_15, hE⟩ := cl_e hE
      refine (moX4_isGoal eo_15).tr ?_
      rcases br_e hE with ⟨_, hE⟩ | ⟨_, hE⟩
      · exact moX4_branch_126 mr_X4_attempt mr_X4_reply mr_X4_goOn mr_X4_branch mr_X4_tree hE
      · exact moX4_branch_126 mr_X4_attempt mr_X4_reply mr_X4_goOn mr_X4_branch mr_X4_tree hE
    · obtain ⟨o_17, eo_17, hE⟩ := cl_e hE
      refine (mr_X4_goOn eo_17).tr ?_
      exact moX4_branch_126 mr_X4_attempt mr_X4_reply mr_X4_goOn mr_X4_branch mr_X4_tree hE
  obtain ⟨o_19, eo_19, hE⟩ := cl_e hE
  refine (mr_X4_tree eo_19).tr ?_
  exact le_some2 hE
set_option maxRecDepth 20000 in
theorem bX4_branch_56 {p : Program} {l : Launch} {e : Env} {s : State} {m : MethodId} {args : Array Value} {below : List Frame} {meth : Method} {c : Code} {X : Ec} {h0 : Hp} {o : Int32 × Hp} {d : Nat} {r_X4_attempt : Hp → Nat → Int32 → Int32 → Option (Int32 × Hp)} {r_X4_reply : Hp → Nat → Int32 → Option (Int32 × Hp)} {r_X4_goOn : Hp → Nat → Int32 → Option (Int32 × Hp)} {r_X4_branch : Hp → Nat → Int32 → Int32 → Option (Int32 × Hp)} {r_X4_tree : Hp → Nat → Int32 → Option (Int32 × Hp)} {F : Nat} (C : Cx X p s m args meth c RX4 cX4_branch 3 (some .int) "branch") (hr_X4_attempt : ∀ {h : Hp} {x0 : Nat} {x1 : Int32} {x2 : Int32} {o : Int32 × Hp}, hK h x0 = 4 → r_X4_attempt h x0 x1 x2 = some o → MetI l yX4_attempt cX4_attempt 6 (some .int)  (d + 6) (d * 27 + 161) X [.ref x0, .int x1, .int x2] h o) (hr_X4_reply : ∀ {h : Hp} {x0 : Nat} {x1 : Int32} {o : Int32 × Hp}, hK h x0 = 4 → r_X4_reply h x0 x1 = some o → MetI l yX4_reply cX4_reply 3 (some .int)  (d + 6) (d * 27 + 161) X [.ref x0, .int x1] h o) (hr_X4_goOn : ∀ {h : Hp} {x0 : Nat} {x1 : Int32} {o : Int32 × Hp}, hK h x0 = 4 → r_X4_goOn h x0 x1 = some o → MetI l yX4_goOn cX4_goOn 3 (some .int)  (d + 6) (d * 27 + 161) X [.ref x0, .int x1] h o) (hr_X4_branch : ∀ {h : Hp} {x0 : Nat} {x1 : Int32} {x2 : Int32} {o : Int32 × Hp}, hK h x0 = 4 → r_X4_branch h x0 x1 x2 = some o → MetI l yX4_branch cX4_branch 3 (some .int)  (d + 6) (d * 27 + 161) X [.ref x0, .int x1, .int x2] h o) (hr_X4_tree : ∀ {h : Hp} {x0 : Nat} {x1 : Int32} {o : Int32 × Hp}, hK h x0 = 4 → r_X4_tree h x0 x1 = some o → MetI l yX4_tree cX4_tree 8 (some .int)  (d + 6) (d * 27 + 161) X [.ref x0, .int x1] h o) (mr_X4_attempt : ∀ {h : Hp} {x0 : Nat} {x1 : Int32} {x2 : Int32} {o : Int32 × Hp}, r_X4_attempt h x0 x1 x2 = some o → Le h o.2) (mr_X4_reply : ∀ {h : Hp} {x0 : Nat} {x1 : Int32} {o : Int32 × Hp}, r_X4_reply h x0 x1 = some o → Le h o.2) (mr_X4_goOn : ∀ {h : Hp} {x0 : Nat} {x1 : Int32} {o : Int32 × Hp}, r_X4_goOn h x0 x1 = some o → Le h o.2) (mr_X4_branch : ∀ {h : Hp} {x0 : Nat} {x1 : Int32} {x2 : Int32} {o : Int32 × Hp}, r_X4_branch h x0 x1 x2 = some o → Le h o.2) (mr_X4_tree : ∀ {h : Hp} {x0 : Nat} {x1 : Int32} {o : Int32 × Hp}, r_X4_tree h x0 x1 = some o → Le h o.2) {h : Hp} {t0 : Int32} {H : Heap} {locs : List Loc} (hkm : Km h0 h) (hW : Wx X h H) (hZ : va_S (aA (eB X)) s.heap H locs) (ls : Array Slot) (hl : lv_has ls 3 []) (hE : sX4_branch_56 F r_X4_attempt r_X4_reply r_X4_goOn r_X4_branch r_X4_tree h  t0 = some o) : W p l e (rm (d + 1 + 6) ((d + 1) * 27 + 161)) s m args below meth c H locs 0 0 (MQ below (QI X h0 o.1 o.2) args s 0 0 (aA (eB X))) (F0 m 56 ls [.int t0]) := by
  exact x_iret C rfl rfl hW hZ hkm hE dX4_branch_56
set_option maxRecDepth 20000 in
theorem bX4_branch_92 {p : Program} {l : Launch} {e : Env} {s : State} {m : MethodId} {args : Array Value} {below : List Frame} {meth : Method} {c : Code} {X : Ec} {h0 : Hp} {o : Int32 × Hp} {d : Nat} {r_X4_attempt : Hp → Nat → Int32 → Int32 → Option (Int32 × Hp)} {r_X4_reply : Hp → Nat → Int32 → Option (Int32 × Hp)} {r_X4_goOn : Hp → Nat → Int32 → Option (Int32 × Hp)} {r_X4_branch : Hp → Nat → Int32 → Int32 → Option (Int32 × Hp)} {r_X4_tree : Hp → Nat → Int32 → Option (Int32 × Hp)} {F : Nat} (C : Cx X p s m args meth c RX4 cX4_branch 3 (some .int) "branch") (hr_X4_attempt : ∀ {h : Hp} {x0 : Nat} {x1 : Int32} {x2 : Int32} {o : Int32 × Hp}, hK h x0 = 4 → r_X4_attempt h x0 x1 x2 = some o → MetI l yX4_attempt cX4_attempt 6 (some .int)  (d + 6) (d * 27 + 161) X [.ref x0, .int x1, .int x2] h o) (hr_X4_reply : ∀ {h : Hp} {x0 : Nat} {x1 : Int32} {o : Int32 × Hp}, hK h x0 = 4 → r_X4_reply h x0 x1 = some o → MetI l yX4_reply cX4_reply 3 (some .int)  (d + 6) (d * 27 + 161) X [.ref x0, .int x1] h o) (hr_X4_goOn : ∀ {h : Hp} {x0 : Nat} {x1 : Int32} {o : Int32 × Hp}, hK h x0 = 4 → r_X4_goOn h x0 x1 = some o → MetI l yX4_goOn cX4_goOn 3 (some .int)  (d + 6) (d * 27 + 161) X [.ref x0, .int x1] h o) (hr_X4_branch : ∀ {h : Hp} {x0 : Nat} {x1 : Int32} {x2 : Int32} {o : Int32 × Hp}, hK h x0 = 4 → r_X4_branch h x0 x1 x2 = some o → MetI l yX4_branch cX4_branch 3 (some .int)  (d + 6) (d * 27 + 161) X [.ref x0, .int x1, .int x2] h o) (hr_X4_tree : ∀ {h : Hp} {x0 : Nat} {x1 : Int32} {o : Int32 × Hp}, hK h x0 = 4 → r_X4_tree h x0 x1 = some o → MetI l yX4_tree cX4_tree 8 (some .int)  (d + 6) (d * 27 + 161) X [.ref x0, .int x1] h o) (mr_X4_attempt : ∀ {h : Hp} {x0 : Nat} {x1 : Int32} {x2 : Int32} {o : Int32 × Hp}, r_X4_attempt h x0 x1 x2 = some o → Le h o.2) (mr_X4_reply : ∀ {h : Hp} {x0 : Nat} {x1 : Int32} {o : Int32 × Hp}, r_X4_reply h x0 x1 = some o → Le h o.2) (mr_X4_goOn : ∀ {h : Hp} {x0 : Nat} {x1 : Int32} {o : Int32 × Hp}, r_X4_goOn h x0 x1 = some o → Le h o.2) (mr_X4_branch : ∀ {h : Hp} {x0 : Nat} {x1 : Int32} {x2 : Int32} {o : Int32 × Hp}, r_X4_branch h x0 x1 x2 = some o → Le h o.2) (mr_X4_tree : ∀ {h : Hp} {x0 : Nat} {x1 : Int32} {o : Int32 × Hp}, r_X4_tree h x0 x1 = some o → Le h o.2) {h : Hp} {t0 : Int32} {H : Heap} {locs : List Loc} (hkm : Km h0 h) (hW : Wx X h H) (hZ : va_S (aA (eB X)) s.heap H locs) (ls : Array Slot) (hl : lv_has ls 3 []) (hE : sX4_branch_92 F r_X4_attempt r_X4_reply r_X4_goOn r_X4_branch r_X4_tree h  t0 = some o) : W p l e (rm (d + 1 + 6) ((d + 1) * 27 + 161)) s m args below meth c H locs 0 0 (MQ below (QI X h0 o.1 o.2) args s 0 0 (aA (eB X))) (F0 m 92 ls [.int t0]) := by
  exact x_iret C rfl rfl hW hZ hkm hE dX4_branch_92
set_option maxRecDepth 20000 in
theorem bX4_branch_126 {p : Program} {l : Launch} {e : Env} {s : State} {m : MethodId} {args : Array Value} {below : List Frame} {meth : Method} {c : Code} {X : Ec} {h0 : Hp} {o : Int32 × Hp} {d : Nat} {r_X4_attempt : Hp → Nat → Int32 → Int32 → Option (Int32 × Hp)} {r_X4_reply : Hp → Nat → Int32 → Option (Int32 × Hp)} {r_X4_goOn : Hp → Nat → Int32 → Option (Int32 × Hp)} {r_X4_branch : Hp → Nat → Int32 → Int32 → Option (Int32 × Hp)} {r_X4_tree : Hp → Nat → Int32 → Option (Int32 × Hp)} {F : Nat} (C : Cx X p s m args meth c RX4 cX4_branch 3 (some .int) "branch") (hr_X4_attempt : ∀ {h : Hp} {x0 : Nat} {x1 : Int32} {x2 : Int32} {o : Int32 × Hp}, hK h x0 = 4 → r_X4_attempt h x0 x1 x2 = some o → MetI l yX4_attempt cX4_attempt 6 (some .int)  (d + 6) (d * 27 + 161) X [.ref x0, .int x1, .int x2] h o) (hr_X4_reply : ∀ {h : Hp} {x0 : Nat} {x1 : Int32} {o : Int32 × Hp}, hK h x0 = 4 → r_X4_reply h x0 x1 = some o → MetI l yX4_reply cX4_reply 3 (some .int)  (d + 6) (d * 27 + 161) X [.ref x0, .int x1] h o) (hr_X4_goOn : ∀ {h : Hp} {x0 : Nat} {x1 : Int32} {o : Int32 × Hp}, hK h x0 = 4 → r_X4_goOn h x0 x1 = some o → MetI l yX4_goOn cX4_goOn 3 (some .int)  (d + 6) (d * 27 + 161) X [.ref x0, .int x1] h o) (hr_X4_branch : ∀ {h : Hp} {x0 : Nat} {x1 : Int32} {x2 : Int32} {o : Int32 × Hp}, hK h x0 = 4 → r_X4_branch h x0 x1 x2 = some o → MetI l yX4_branch cX4_branch 3 (some .int)  (d + 6) (d * 27 + 161) X [.ref x0, .int x1, .int x2] h o) (hr_X4_tree : ∀ {h : Hp} {x0 : Nat} {x1 : Int32} {o : Int32 × Hp}, hK h x0 = 4 → r_X4_tree h x0 x1 = some o → MetI l yX4_tree cX4_tree 8 (some .int)  (d + 6) (d * 27 + 161) X [.ref x0, .int x1] h o) (mr_X4_attempt : ∀ {h : Hp} {x0 : Nat} {x1 : Int32} {x2 : Int32} {o : Int32 × Hp}, r_X4_attempt h x0 x1 x2 = some o → Le h o.2) (mr_X4_reply : ∀ {h : Hp} {x0 : Nat} {x1 : Int32} {o : Int32 × Hp}, r_X4_reply h x0 x1 = some o → Le h o.2) (mr_X4_goOn : ∀ {h : Hp} {x0 : Nat} {x1 : Int32} {o : Int32 × Hp}, r_X4_goOn h x0 x1 = some o → Le h o.2) (mr_X4_branch : ∀ {h : Hp} {x0 : Nat} {x1 : Int32} {x2 : Int32} {o : Int32 × Hp}, r_X4_branch h x0 x1 x2 = some o → Le h o.2) (mr_X4_tree : ∀ {h : Hp} {x0 : Nat} {x1 : Int32} {o : Int32 × Hp}, r_X4_tree h x0 x1 = some o → Le h o.2) {h : Hp} {t0 : Int32} {H : Heap} {locs : List Loc} (hkm : Km h0 h) (hW : Wx X h H) (hZ : va_S (aA (eB X)) s.heap H locs) (ls : Array Slot) (hl : lv_has ls 3 []) (hE : sX4_branch_126 F r_X4_attempt r_X4_reply r_X4_goOn r_X4_branch r_X4_tree h  t0 = some o) : W p l e (rm (d + 1 + 6) ((d + 1) * 27 + 161)) s m args below meth c H locs 0 0 (MQ below (QI X h0 o.1 o.2) args s 0 0 (aA (eB X))) (F0 m 126 ls [.int t0]) := by
  exact x_iret C rfl rfl hW hZ hkm hE dX4_branch_126
set_option maxRecDepth 20000 in
theorem ot_X4_branch (l : Launch) (X : Ec) (F : Nat) {d : Nat} {r_X4_attempt : Hp → Nat → Int32 → Int32 → Option (Int32 × Hp)} {r_X4_reply : Hp → Nat → Int32 → Option (Int32 × Hp)} {r_X4_goOn : Hp → Nat → Int32 → Option (Int32 × Hp)} {r_X4_branch : Hp → Nat → Int32 → Int32 → Option (Int32 × Hp)} {r_X4_tree : Hp → Nat → Int32 → Option (Int32 × Hp)} (hr_X4_attempt : ∀ {h : Hp} {x0 : Nat} {x1 : Int32} {x2 : Int32} {o : Int32 × Hp}, hK h x0 = 4 → r_X4_attempt h x0 x1 x2 = some o → MetI l yX4_attempt cX4_attempt 6 (some .int)  (d + 6) (d * 27 + 161) X [.ref x0, .int x1, .int x2] h o) (hr_X4_reply : ∀ {h : Hp} {x0 : Nat} {x1 : Int32} {o : Int32 × Hp}, hK h x0 = 4 → r_X4_reply h x0 x1 = some o → MetI l yX4_reply cX4_reply 3 (some .int)  (d + 6) (d * 27 + 161) X [.ref x0, .int x1] h o) (hr_X4_goOn : ∀ {h : Hp} {x0 : Nat} {x1 : Int32} {o : Int32 × Hp}, hK h x0 = 4 → r_X4_goOn h x0 x1 = some o → MetI l yX4_goOn cX4_goOn 3 (some .int)  (d + 6) (d * 27 + 161) X [.ref x0, .int x1] h o) (hr_X4_branch : ∀ {h : Hp} {x0 : Nat} {x1 : Int32} {x2 : Int32} {o : Int32 × Hp}, hK h x0 = 4 → r_X4_branch h x0 x1 x2 = some o → MetI l yX4_branch cX4_branch 3 (some .int)  (d + 6) (d * 27 + 161) X [.ref x0, .int x1, .int x2] h o) (hr_X4_tree : ∀ {h : Hp} {x0 : Nat} {x1 : Int32} {o : Int32 × Hp}, hK h x0 = 4 → r_X4_tree h x0 x1 = some o → MetI l yX4_tree cX4_tree 8 (some .int)  (d + 6) (d * 27 + 161) X [.ref x0, .int x1] h o) (mr_X4_attempt : ∀ {h : Hp} {x0 : Nat} {x1 : Int32} {x2 : Int32} {o : Int32 × Hp}, r_X4_attempt h x0 x1 x2 = some o → Le h o.2) (mr_X4_reply : ∀ {h : Hp} {x0 : Nat} {x1 : Int32} {o : Int32 × Hp}, r_X4_reply h x0 x1 = some o → Le h o.2) (mr_X4_goOn : ∀ {h : Hp} {x0 : Nat} {x1 : Int32} {o : Int32 × Hp}, r_X4_goOn h x0 x1 = some o → Le h o.2) (mr_X4_branch : ∀ {h : Hp} {x0 : Nat} {x1 : Int32} {x2 : Int32} {o : Int32 × Hp}, r_X4_branch h x0 x1 x2 = some o → Le h o.2) (mr_X4_tree : ∀ {h : Hp} {x0 : Nat} {x1 : Int32} {o : Int32 × Hp}, r_X4_tree h x0 x1 = some o → Le h o.2) {h : Hp} {x0 : Nat} {x1 : Int32} {x2 : Int32} {o : Int32 × Hp} (k_x0 : hK h x0 = 4) (hE : oX4_branch F r_X4_attempt r_X4_reply r_X4_goOn r_X4_branch r_X4_tree h x0 x1 x2 = some o) : MetI l yX4_branch cX4_branch 3 (some .int) (d + 1 + 6) ((d + 1) * 27 + 161) X [.ref x0, .int x1, .int x2] h o := by
  refine x_met (by decide) (Nat.le_of_ble_eq_true rfl) ?_
  intro p e s m below meth c ls C hl hW hZ
  have hl : lv_has ls 3 [(0, .ref x0), (1, .int x1), (2, .int x2)] := hl
  have hkm : Km h h := Km.rf h
  refine lv_aload_n C.1 C.2.1 dX4_branch_0 rfl (lv_at hl 0 rfl) ?_
  refine gf_X4_50 C hW k_x0 dX4_branch_1 ?_
  by_cases c_4 : (hI h x0 5) = (0 : Int32)
  · have hE := br_p hE c_4
    refine lv_tableIn (off := 32) (tgt := 36) C.1 C.2.1 dX4_branch_4 (by rw [c_4]; decide) (by rw [c_4]; decide) (by rw [c_4]; rfl) (by decide) ?_
    refine lv_iload_n C.1 C.2.1 dX4_branch_36 rfl (lv_at hl 1 rfl) ?_
    refine lv_iconst (v := (1 : Int32)) C.1 C.2.1 dX4_branch_37 (by decide) ?_
    refine lv_iand C.1 C.2.1 dX4_branch_38 ?_
    refine lv_if_ne (tgt := 51) C.1 C.2.1 dX4_branch_39 (by decide) (fun c_1 => ?_) (fun c_1 => ?_)
    · have hE := br_n hE c_1
      refine lv_aload_n C.1 C.2.1 dX4_branch_51 rfl (lv_at hl 0 rfl) ?_
      refine lv_iload_n C.1 C.2.1 dX4_branch_52 rfl (lv_at hl 1 rfl) ?_
      obtain ⟨o_2, eo_2, hE⟩ := cl_e hE
      refine x_kI (o := o_2) (z_runV (As := [.int x1]) (rest := []) C (hr_X4_reply k_x0 eo_2) cw_X4_102 hW hZ k_x0 (by decide) rfl rfl rfl hl.1 (Nat.le_of_ble_eq_true rfl) rfl dX4_branch_53 ⟨by dsimp only [rm, rmA]; omega, by dsimp only [rm, rmA]; omega⟩ ⟨Nat.le_refl _, Nat.le_refl _⟩) hZ (fun _ _ hW km hZ => ?_)
      replace hkm := hkm.tr km
      replace k_x0 := km.at k_x0 (by decide)
      exact bX4_branch_56 C hr_X4_attempt hr_X4_reply hr_X4_goOn hr_X4_branch hr_X4_tree mr_X4_attempt mr_X4_reply mr_X4_goOn mr_X4_branch mr_X4_tree hkm hW hZ _ (lv_sub hl [] rfl) hE
    · have hE := br_p hE c_1
      refine lv_aload_n C.1 C.2.1 dX4_branch_42 rfl (lv_at hl 0 rfl) ?_
      refine lv_iload_n C.1 C.2.1 dX4_branch_43 rfl (lv_at hl 1 rfl) ?_
      refine lv_iload_n C.1 C.2.1 dX4_branch_44 rfl (lv_at hl 2 rfl) ?_
      obtain ⟨o_3, eo_3, hE⟩ := cl_e hE
      refine x_kI (o := o_3) (z_runV (As := [.int x1, .int x2]) (rest := []) C (hr_X4_attempt k_x0 eo_3) cw_X4_99 hW hZ k_x0 (by decide) rfl rfl rfl hl.1 (Nat.le_of_ble_eq_true rfl) rfl dX4_branch_45 ⟨by dsimp only [rm, rmA]; omega, by dsimp only [rm, rmA]; omega⟩ ⟨Nat.le_refl _, Nat.le_refl _⟩) hZ (fun _ _ hW km hZ => ?_)
      replace hkm := hkm.tr km
      replace k_x0 := km.at k_x0 (by decide)
      refine lv_goto (tgt := 56) C.1 C.2.1 dX4_branch_48 (by decide) ?_
      exact bX4_branch_56 C hr_X4_attempt hr_X4_reply hr_X4_goOn hr_X4_branch hr_X4_tree mr_X4_attempt mr_X4_reply mr_X4_goOn mr_X4_branch mr_X4_tree hkm hW hZ _ (lv_sub hl [] rfl) hE
  have hE := br_n hE c_4
  by_cases c_8 : (hI h x0 5) = (1 : Int32)
  · have hE := br_p hE c_8
    refine lv_tableIn (off := 32) (tgt := 36) C.1 C.2.1 dX4_branch_4 (by rw [c_8]; decide) (by rw [c_8]; decide) (by rw [c_8]; rfl) (by decide) ?_
    refine lv_iload_n C.1 C.2.1 dX4_branch_36 rfl (lv_at hl 1 rfl) ?_
    refine lv_iconst (v := (1 : Int32)) C.1 C.2.1 dX4_branch_37 (by decide) ?_
    refine lv_iand C.1 C.2.1 dX4_branch_38 ?_
    refine lv_if_ne (tgt := 51) C.1 C.2.1 dX4_branch_39 (by decide) (fun c_5 => ?_) (fun c_5 => ?_)
    · have hE := br_n hE c_5
      refine lv_aload_n C.1 C.2.1 dX4_branch_51 rfl (lv_at hl 0 rfl) ?_
      refine lv_iload_n C.1 C.2.1 dX4_branch_52 rfl (lv_at hl 1 rfl) ?_
      obtain ⟨o_6, eo_6, hE⟩ := cl_e hE
      refine x_kI (o := o_6) (z_runV (As := [.int x1]) (rest := []) C (hr_X4_reply k_x0 eo_6) cw_X4_102 hW hZ k_x0 (by decide) rfl rfl rfl hl.1 (Nat.le_of_ble_eq_true rfl) rfl dX4_branch_53 ⟨by dsimp only [rm, rmA]; omega, by dsimp only [rm, rmA]; omega⟩ ⟨Nat.le_refl _, Nat.le_refl _⟩) hZ (fun _ _ hW km hZ => ?_)
      replace hkm := hkm.tr km
      replace k_x0 := km.at k_x0 (by decide)
      exact bX4_branch_56 C hr_X4_attempt hr_X4_reply hr_X4_goOn hr_X4_branch hr_X4_tree mr_X4_attempt mr_X4_reply mr_X4_goOn mr_X4_branch mr_X4_tree hkm hW hZ _ (lv_sub hl [] rfl) hE
    · have hE := br_p hE c_5
      refine lv_aload_n C.1 C.2.1 dX4_branch_42 rfl (lv_at hl 0 rfl) ?_
      refine lv_iload_n C.1 C.2.1 dX4_branch_43 rfl (lv_at hl 1 rfl) ?_
      refine lv_iload_n C.1 C.2.1 dX4_branch_44 rfl (lv_at hl 2 rfl) ?_
      obtain ⟨o_7, eo_7, hE⟩ := cl_e hE
      refine x_kI (o := o_7) (z_runV (As := [.int x1, .int x2]) (rest := []) C (hr_X4_attempt k_x0 eo_7) cw_X4_99 hW hZ k_x0 (by decide) rfl rfl rfl hl.1 (Nat.le_of_ble_eq_true rfl) rfl dX4_branch_45 ⟨by dsimp only [rm, rmA]; omega, by dsimp only [rm, rmA]; omega⟩ ⟨Nat.le_refl _, Nat.le_refl _⟩) hZ (fun _ _ hW km hZ => ?_)
      replace hkm := hkm.tr km
      replace k_x0 := km.at k_x0 (by decide)
      refine lv_goto (tgt := 56) C.1 C.2.1 dX4_branch_48 (by decide) ?_
      exact bX4_branch_56 C hr_X4_attempt hr_X4_reply hr_X4_goOn hr_X4_branch hr_X4_tree mr_X4_attempt mr_X4_reply mr_X4_goOn mr_X4_branch mr_X4_tree hkm hW hZ _ (lv_sub hl [] rfl) hE
  have hE := br_n hE c_8
  by_cases c_13 : (hI h x0 5) = (2 : Int32)
  · have hE := br_p hE c_13
    refine lv_tableIn (off := 53) (tgt := 57) C.1 C.2.1 dX4_branch_4 (by rw [c_13]; decide) (by rw [c_13]; decide) (by rw [c_13]; rfl) (by decide) ?_
    refine lv_iload_n C.1 C.2.1 dX4_branch_57 rfl (lv_at hl 1 rfl) ?_
    refine lv_iconst (v := (1 : Int32)) C.1 C.2.1 dX4_branch_58 (by decide) ?_
    refine lv_iadd C.1 C.2.1 dX4_branch_59 ?_
    refine lv_aload_n C.1 C.2.1 dX4_branch_60 rfl (lv_at hl 0 rfl) ?_
    refine gf_X4_56 C hW k_x0 dX4_branch_61 ?_
    refine lv_icmp_ge (tgt := 77) C.1 C.2.1 dX4_branch_64 (by decide) (fun c_9 => ?_) (fun c_9 => ?_)
    · have hE := br_p hE c_9
      refine lv_aload_n C.1 C.2.1 dX4_branch_77 rfl (lv_at hl 0 rfl) ?_
      refine lv_iload_n C.1 C.2.1 dX4_branch_78 rfl (lv_at hl 1 rfl) ?_
      refine lv_iconst (v := (1 : Int32)) C.1 C.2.1 dX4_branch_79 (by decide) ?_
      refine lv_iadd C.1 C.2.1 dX4_branch_80 ?_
      obtain ⟨o_10, eo_10, hE⟩ := cl_e hE
      refine x_kI (o := o_10) (z_runV (As := [.int (x1 + (1 : Int32))]) (rest := []) C (ct_X4_isGoal l X k_x0 eo_10) cw_X4_109 hW hZ k_x0 (by decide) rfl rfl rfl hl.1 (Nat.le_of_ble_eq_true rfl) rfl dX4_branch_81 ⟨by dsimp only [rm, rmA]; omega, by dsimp only [rm, rmA]; omega⟩ ⟨Nat.le_refl _, Nat.le_refl _⟩) hZ (fun _ _ hW km hZ => ?_)
      replace hkm := hkm.tr km
      replace k_x0 := km.at k_x0 (by decide)
      refine lv_if_eq (tgt := 91) C.1 C.2.1 dX4_branch_84 (by decide) (fun c_11 => ?_) (fun c_11 => ?_)
      · have hE := br_p hE c_11
        refine lv_iconst (v := (0 : Int32)) C.1 C.2.1 dX4_branch_91 (by decide) ?_
        exact bX4_branch_92 C hr_X4_attempt hr_X4_reply hr_X4_goOn hr_X4_branch hr_X4_tree mr_X4_attempt mr_X4_reply mr_X4_goOn mr_X4_branch mr_X4_tree hkm hW hZ _ (lv_sub hl [] rfl) hE
      · have hE := br_n hE c_11
        refine lv_iconst (v := (1 : Int32)) C.1 C.2.1 dX4_branch_87 (by decide) ?_
        refine lv_goto (tgt := 92) C.1 C.2.1 dX4_branch_88 (by decide) ?_
        exact bX4_branch_92 C hr_X4_attempt hr_X4_reply hr_X4_goOn hr_X4_branch hr_X4_tree mr_X4_attempt mr_X4_reply mr_X4_goOn mr_X4_branch mr_X4_tree hkm hW hZ _ (lv_sub hl [] rfl) hE
    · have hE := br_n hE c_9
      refine lv_aload_n C.1 C.2.1 dX4_branch_67 rfl (lv_at hl 0 rfl) ?_
      refine lv_iload_n C.1 C.2.1 dX4_branch_68 rfl (lv_at hl 1 rfl) ?_
      refine lv_iconst (v := (1 : Int32)) C.1 C.2.1 dX4_branch_69 (by decide) ?_
      refine lv_iadd C.1 C.2.1 dX4_branch_70 ?_
      obtain ⟨o_12, eo_12, hE⟩ := cl_e hE
      refine x_kI (o := o_12) (z_runV (As := [.int (x1 + (1 : Int32))]) (rest := []) C (hr_X4_tree k_x0 eo_12) cw_X4_106 hW hZ k_x0 (by decide) rfl rfl rfl hl.1 (Nat.le_of_ble_eq_true rfl) rfl dX4_branch_71 ⟨by dsimp only [rm, rmA]; omega, by dsimp only [rm, rmA]; omega⟩ ⟨Nat.le_refl _, Nat.le_refl _⟩) hZ (fun _ _ hW km hZ => ?_)
      replace hkm := hkm.tr km
      replace k_x0 := km.at k_x0 (by decide)
      refine lv_goto (tgt := 92) C.1 C.2.1 dX4_branch_74 (by decide) ?_
      exact bX4_branch_92 C hr_X4_attempt hr_X4_reply hr_X4_goOn hr_X4_branch hr_X4_tree mr_X4_attempt mr_X4_reply mr_X4_goOn mr_X4_branch mr_X4_tree hkm hW hZ _ (lv_sub hl [] rfl) hE
  have hE := br_n hE c_13
  by_cases c_18 : (hI h x0 5) = (3 : Int32)
  · have hE := br_p hE c_18
    refine lv_tableIn (off := 89) (tgt := 93) C.1 C.2.1 dX4_branch_4 (by rw [c_18]; decide) (by rw [c_18]; decide) (by rw [c_18]; rfl) (by decide) ?_
    refine lv_iload_n C.1 C.2.1 dX4_branch_93 rfl (lv_at hl 1 rfl) ?_
    refine lv_iconst (v := (1 : Int32)) C.1 C.2.1 dX4_branch_94 (by decide) ?_
    refine lv_iadd C.1 C.2.1 dX4_branch_95 ?_
    refine lv_aload_n C.1 C.2.1 dX4_branch_96 rfl (lv_at hl 0 rfl) ?_
    refine gf_X4_56 C hW k_x0 dX4_branch_97 ?_
    refine lv_icmp_ge (tgt := 111) C.1 C.2.1 dX4_branch_100 (by decide) (fun c_14 => ?_) (fun c_14 => ?_)
    · have hE := br_p hE c_14
      refine lv_aload_n C.1 C.2.1 dX4_branch_111 rfl (lv_at hl 0 rfl) ?_
      refine lv_iload_n C.1 C.2.1 dX4_branch_112 rfl (lv_at hl 1 rfl) ?_
      refine lv_iconst (v := (1 : Int32)) C.1 C.2.1 dX4_branch_113 (by decide) ?_
      refine lv_iadd C.1 C.2.1 dX4_branch_114 ?_
      obtain ⟨o_15, eo_15, hE⟩ := cl_e hE
      refine x_kI (o := o_15) (z_runV (As := [.int (x1 + (1 : Int32))]) (rest := []) C (ct_X4_isGoal l X k_x0 eo_15) cw_X4_109 hW hZ k_x0 (by decide) rfl rfl rfl hl.1 (Nat.le_of_ble_eq_true rfl) rfl dX4_branch_115 ⟨by dsimp only [rm, rmA]; omega, by dsimp only [rm, rmA]; omega⟩ ⟨Nat.le_refl _, Nat.le_refl _⟩) hZ (fun _ _ hW km hZ => ?_)
      replace hkm := hkm.tr km
      replace k_x0 := km.at k_x0 (by decide)
      refine lv_if_eq (tgt := 125) C.1 C.2.1 dX4_branch_118 (by decide) (fun c_16 => ?_) (fun c_16 => ?_)
      · have hE := br_p hE c_16
        refine lv_iconst (v := (0 : Int32)) C.1 C.2.1 dX4_branch_125 (by decide) ?_
        exact bX4_branch_126 C hr_X4_attempt hr_X4_reply hr_X4_goOn hr_X4_branch hr_X4_tree mr_X4_attempt mr_X4_reply mr_X4_goOn mr_X4_branch mr_X4_tree hkm hW hZ _ (lv_sub hl [] rfl) hE
      · have hE := br_n hE c_16
        refine lv_iconst (v := (1 : Int32)) C.1 C.2.1 dX4_branch_121 (by decide) ?_
        refine lv_goto (tgt := 126) C.1 C.2.1 dX4_branch_122 (by decide) ?_
        exact bX4_branch_126 C hr_X4_attempt hr_X4_reply hr_X4_goOn hr_X4_branch hr_X4_tree mr_X4_attempt mr_X4_reply mr_X4_goOn mr_X4_branch mr_X4_tree hkm hW hZ _ (lv_sub hl [] rfl) hE
    · have hE := br_n hE c_14
      refine lv_aload_n C.1 C.2.1 dX4_branch_103 rfl (lv_at hl 0 rfl) ?_
      refine lv_iload_n C.1 C.2.1 dX4_branch_104 rfl (lv_at hl 1 rfl) ?_
      obtain ⟨o_17, eo_17, hE⟩ := cl_e hE
      refine x_kI (o := o_17) (z_runV (As := [.int x1]) (rest := []) C (hr_X4_goOn k_x0 eo_17) cw_X4_113 hW hZ k_x0 (by decide) rfl rfl rfl hl.1 (Nat.le_of_ble_eq_true rfl) rfl dX4_branch_105 ⟨by dsimp only [rm, rmA]; omega, by dsimp only [rm, rmA]; omega⟩ ⟨Nat.le_refl _, Nat.le_refl _⟩) hZ (fun _ _ hW km hZ => ?_)
      replace hkm := hkm.tr km
      replace k_x0 := km.at k_x0 (by decide)
      refine lv_goto (tgt := 126) C.1 C.2.1 dX4_branch_108 (by decide) ?_
      exact bX4_branch_126 C hr_X4_attempt hr_X4_reply hr_X4_goOn hr_X4_branch hr_X4_tree mr_X4_attempt mr_X4_reply mr_X4_goOn mr_X4_branch mr_X4_tree hkm hW hZ _ (lv_sub hl [] rfl) hE
  have hE := br_n hE c_18
  refine lv_tableOut (tgt := 127) C.1 C.2.1 dX4_branch_4 (by have zc_4 := lv_neT (a := 0) c_4 (by decide); have zc_8 := lv_neT (a := 1) c_8 (by decide); have zc_13 := lv_neT (a := 2) c_13 (by decide); have zc_18 := lv_neT (a := 3) c_18 (by decide); omega) (by decide) ?_
  refine lv_aload_n C.1 C.2.1 dX4_branch_127 rfl (lv_at hl 0 rfl) ?_
  refine lv_iload_n C.1 C.2.1 dX4_branch_128 rfl (lv_at hl 1 rfl) ?_
  refine lv_iconst (v := (1 : Int32)) C.1 C.2.1 dX4_branch_129 (by decide) ?_
  refine lv_iadd C.1 C.2.1 dX4_branch_130 ?_
  obtain ⟨o_19, eo_19, hE⟩ := cl_e hE
  refine x_kI (o := o_19) (z_runV (As := [.int (x1 + (1 : Int32))]) (rest := []) C (hr_X4_tree k_x0 eo_19) cw_X4_106 hW hZ k_x0 (by decide) rfl rfl rfl hl.1 (Nat.le_of_ble_eq_true rfl) rfl dX4_branch_131 ⟨by dsimp only [rm, rmA]; omega, by dsimp only [rm, rmA]; omega⟩ ⟨Nat.le_refl _, Nat.le_refl _⟩) hZ (fun _ _ hW km hZ => ?_)
  replace hkm := hkm.tr km
  replace k_x0 := km.at k_x0 (by decide)
  exact x_iret C rfl rfl hW hZ hkm hE dX4_branch_134
set_option maxRecDepth 20000 in
theorem moX4_tree_18 {o : Int32 × Hp} {F : Nat} {r_X4_attempt : Hp → Nat → Int32 → Int32 → Option (Int32 × Hp)} {r_X4_reply : Hp → Nat → Int32 → Option (Int32 × Hp)} {r_X4_goOn : Hp → Nat → Int32 → Option (Int32 × Hp)} {r_X4_branch : Hp → Nat → Int32 → Int32 → Option (Int32 × Hp)} {r_X4_tree : Hp → Nat → Int32 → Option (Int32 × Hp)} (mr_X4_attempt : ∀ {h : Hp} {x0 : Nat} {x1 : Int32} {x2 : Int32} {o : Int32 × Hp}, r_X4_attempt h x0 x1 x2 = some o → Le h o.2) (mr_X4_reply : ∀ {h : Hp} {x0 : Nat} {x1 : Int32} {o : Int32 × Hp}, r_X4_reply h x0 x1 = some o → Le h o.2) (mr_X4_goOn : ∀ {h : Hp} {x0 : Nat} {x1 : Int32} {o : Int32 × Hp}, r_X4_goOn h x0 x1 = some o → Le h o.2) (mr_X4_branch : ∀ {h : Hp} {x0 : Nat} {x1 : Int32} {x2 : Int32} {o : Int32 × Hp}, r_X4_branch h x0 x1 x2 = some o → Le h o.2) (mr_X4_tree : ∀ {h : Hp} {x0 : Nat} {x1 : Int32} {o : Int32 × Hp}, r_X4_tree h x0 x1 = some o → Le h o.2) {h : Hp} (hE : sX4_tree_18 F r_X4_attempt r_X4_reply r_X4_goOn r_X4_branch r_X4_tree h  = some o) : Le h o.2 := by
  exact le_some2 hE
set_option maxRecDepth 20000 in
theorem moX4_tree_268 {o : Int32 × Hp} {F : Nat} {r_X4_attempt : Hp → Nat → Int32 → Int32 → Option (Int32 × Hp)} {r_X4_reply : Hp → Nat → Int32 → Option (Int32 × Hp)} {r_X4_goOn : Hp → Nat → Int32 → Option (Int32 × Hp)} {r_X4_branch : Hp → Nat → Int32 → Int32 → Option (Int32 × Hp)} {r_X4_tree : Hp → Nat → Int32 → Option (Int32 × Hp)} (mr_X4_attempt : ∀ {h : Hp} {x0 : Nat} {x1 : Int32} {x2 : Int32} {o : Int32 × Hp}, r_X4_attempt h x0 x1 x2 = some o → Le h o.2) (mr_X4_reply : ∀ {h : Hp} {x0 : Nat} {x1 : Int32} {o : Int32 × Hp}, r_X4_reply h x0 x1 = some o → Le h o.2) (mr_X4_goOn : ∀ {h : Hp} {x0 : Nat} {x1 : Int32} {o : Int32 × Hp}, r_X4_goOn h x0 x1 = some o → Le h o.2) (mr_X4_branch : ∀ {h : Hp} {x0 : Nat} {x1 : Int32} {x2 : Int32} {o : Int32 × Hp}, r_X4_branch h x0 x1 x2 = some o → Le h o.2) (mr_X4_tree : ∀ {h : Hp} {x0 : Nat} {x1 : Int32} {o : Int32 × Hp}, r_X4_tree h x0 x1 = some o → Le h o.2) {h : Hp} {x4 : Int32} (hE : sX4_tree_268 F r_X4_attempt r_X4_reply r_X4_goOn r_X4_branch r_X4_tree h x4 = some o) : Le h o.2 := by
  exact le_some2 hE
set_option maxRecDepth 20000 in
theorem moX4_tree_255 {o : Int32 × Hp} {k_151 : Hp → Nat → Int32 → Nat → Int32 → Int32 → Int32 → Option (Int32 × Hp)} {F : Nat} {r_X4_attempt : Hp → Nat → Int32 → Int32 → Option (Int32 × Hp)} {r_X4_reply : Hp → Nat → Int32 → Option (Int32 × Hp)} {r_X4_goOn : Hp → Nat → Int32 → Option (Int32 × Hp)} {r_X4_branch : Hp → Nat → Int32 → Int32 → Option (Int32 × Hp)} {r_X4_tree : Hp → Nat → Int32 → Option (Int32 × Hp)} (mr_X4_attempt : ∀ {h : Hp} {x0 : Nat} {x1 : Int32} {x2 : Int32} {o : Int32 × Hp}, r_X4_attempt h x0 x1 x2 = some o → Le h o.2) (mr_X4_reply : ∀ {h : Hp} {x0 : Nat} {x1 : Int32} {o : Int32 × Hp}, r_X4_reply h x0 x1 = some o → Le h o.2) (mr_X4_goOn : ∀ {h : Hp} {x0 : Nat} {x1 : Int32} {o : Int32 × Hp}, r_X4_goOn h x0 x1 = some o → Le h o.2) (mr_X4_branch : ∀ {h : Hp} {x0 : Nat} {x1 : Int32} {x2 : Int32} {o : Int32 × Hp}, r_X4_branch h x0 x1 x2 = some o → Le h o.2) (mr_X4_tree : ∀ {h : Hp} {x0 : Nat} {x1 : Int32} {o : Int32 × Hp}, r_X4_tree h x0 x1 = some o → Le h o.2) (mk_151 : ∀ (h : Hp) (x0 : Nat) (x1 : Int32) (x2 : Nat) (x3 : Int32) (x4 : Int32) (x5 : Int32), k_151 h x0 x1 x2 x3 x4 x5 = some o → Le h o.2) {h : Hp} {x0 : Nat} {x1 : Int32} {x2 : Nat} {x3 : Int32} {x4 : Int32} {x5 : Int32} {x7 : Int32} (hE : sX4_tree_255 F r_X4_attempt r_X4_reply r_X4_goOn r_X4_branch r_X4_tree k_151 h x0 x1 x2 x3 x4 x5 x7 = some o) : Le h o.2 := by
  obtain ⟨v_1, ev_1, hE⟩ := nm_e2 hE
  obtain ⟨v_2, ev_2, hE⟩ := nm_e2 hE
  exact mk_151 _ _ _ _ _ _ _ hE
set_option maxRecDepth 20000 in
theorem moX4_tree_233 {o : Int32 × Hp} {k_151 : Hp → Nat → Int32 → Nat → Int32 → Int32 → Int32 → Option (Int32 × Hp)} {F : Nat} {r_X4_attempt : Hp → Nat → Int32 → Int32 → Option (Int32 × Hp)} {r_X4_reply : Hp → Nat → Int32 → Option (Int32 × Hp)} {r_X4_goOn : Hp → Nat → Int32 → Option (Int32 × Hp)} {r_X4_branch : Hp → Nat → Int32 → Int32 → Option (Int32 × Hp)} {r_X4_tree : Hp → Nat → Int32 → Option (Int32 × Hp)} (mr_X4_attempt : ∀ {h : Hp} {x0 : Nat} {x1 : Int32} {x2 : Int32} {o : Int32 × Hp}, r_X4_attempt h x0 x1 x2 = some o → Le h o.2) (mr_X4_reply : ∀ {h : Hp} {x0 : Nat} {x1 : Int32} {o : Int32 × Hp}, r_X4_reply h x0 x1 = some o → Le h o.2) (mr_X4_goOn : ∀ {h : Hp} {x0 : Nat} {x1 : Int32} {o : Int32 × Hp}, r_X4_goOn h x0 x1 = some o → Le h o.2) (mr_X4_branch : ∀ {h : Hp} {x0 : Nat} {x1 : Int32} {x2 : Int32} {o : Int32 × Hp}, r_X4_branch h x0 x1 x2 = some o → Le h o.2) (mr_X4_tree : ∀ {h : Hp} {x0 : Nat} {x1 : Int32} {o : Int32 × Hp}, r_X4_tree h x0 x1 = some o → Le h o.2) (mk_151 : ∀ (h : Hp) (x0 : Nat) (x1 : Int32) (x2 : Nat) (x3 : Int32) (x4 : Int32) (x5 : Int32), k_151 h x0 x1 x2 x3 x4 x5 = some o → Le h o.2) {h : Hp} {x0 : Nat} {x1 : Int32} {x2 : Nat} {x3 : Int32} {x4 : Int32} {x5 : Int32} (hE : sX4_tree_233 F r_X4_attempt r_X4_reply r_X4_goOn r_X4_branch r_X4_tree k_151 h x0 x1 x2 x3 x4 x5 = some o) : Le h o.2 := by
  obtain ⟨o_1, eo_1, hE⟩ := cl_e hE
  refine (mr_X4_branch eo_1).tr ?_
  rcases br_e hE with ⟨_, hE⟩ | ⟨_, hE⟩
  · obtain ⟨r_3, er_3, hE⟩ := cl_e hE
    obtain ⟨g_4, hE⟩ := gd_e hE
    obtain ⟨h_5, eh_5, hE⟩ := nm_e2 hE
    refine (le_I eh_5).tr ?_
    exact moX4_tree_255 mr_X4_attempt mr_X4_reply mr_X4_goOn mr_X4_branch mr_X4_tree mk_151 hE
  · exact moX4_tree_255 mr_X4_attempt mr_X4_reply mr_X4_goOn mr_X4_branch mr_X4_tree mk_151 hE
set_option maxRecDepth 20000 in
theorem moX4_tree_216 {o : Int32 × Hp} {k_151 : Hp → Nat → Int32 → Nat → Int32 → Int32 → Int32 → Option (Int32 × Hp)} {F : Nat} {r_X4_attempt : Hp → Nat → Int32 → Int32 → Option (Int32 × Hp)} {r_X4_reply : Hp → Nat → Int32 → Option (Int32 × Hp)} {r_X4_goOn : Hp → Nat → Int32 → Option (Int32 × Hp)} {r_X4_branch : Hp → Nat → Int32 → Int32 → Option (Int32 × Hp)} {r_X4_tree : Hp → Nat → Int32 → Option (Int32 × Hp)} (mr_X4_attempt : ∀ {h : Hp} {x0 : Nat} {x1 : Int32} {x2 : Int32} {o : Int32 × Hp}, r_X4_attempt h x0 x1 x2 = some o → Le h o.2) (mr_X4_reply : ∀ {h : Hp} {x0 : Nat} {x1 : Int32} {o : Int32 × Hp}, r_X4_reply h x0 x1 = some o → Le h o.2) (mr_X4_goOn : ∀ {h : Hp} {x0 : Nat} {x1 : Int32} {o : Int32 × Hp}, r_X4_goOn h x0 x1 = some o → Le h o.2) (mr_X4_branch : ∀ {h : Hp} {x0 : Nat} {x1 : Int32} {x2 : Int32} {o : Int32 × Hp}, r_X4_branch h x0 x1 x2 = some o → Le h o.2) (mr_X4_tree : ∀ {h : Hp} {x0 : Nat} {x1 : Int32} {o : Int32 × Hp}, r_X4_tree h x0 x1 = some o → Le h o.2) (mk_151 : ∀ (h : Hp) (x0 : Nat) (x1 : Int32) (x2 : Nat) (x3 : Int32) (x4 : Int32) (x5 : Int32), k_151 h x0 x1 x2 x3 x4 x5 = some o → Le h o.2) {h : Hp} {x0 : Nat} {x1 : Int32} {x2 : Nat} {x3 : Int32} {x4 : Int32} {x5 : Int32} {x6 : Nat} (hE : sX4_tree_216 F r_X4_attempt r_X4_reply r_X4_goOn r_X4_branch r_X4_tree k_151 h x0 x1 x2 x3 x4 x5 x6 = some o) : Le h o.2 := by
  obtain ⟨r_1, er_1, hE⟩ := cl_e hE
  obtain ⟨r_2, er_2, hE⟩ := cl_e hE
  obtain ⟨o_3, eo_3, hE⟩ := cl_e hE
  refine (moX5_endOf eo_3).tr ?_
  obtain ⟨g_4, hE⟩ := gd_e hE
  obtain ⟨h_5, eh_5, hE⟩ := nm_e2 hE
  refine (le_I eh_5).tr ?_
  exact moX4_tree_233 mr_X4_attempt mr_X4_reply mr_X4_goOn mr_X4_branch mr_X4_tree mk_151 hE
set_option maxRecDepth 20000 in
theorem moX4_tree_151 {o : Int32 × Hp} {F : Nat} {r_X4_attempt : Hp → Nat → Int32 → Int32 → Option (Int32 × Hp)} {r_X4_reply : Hp → Nat → Int32 → Option (Int32 × Hp)} {r_X4_goOn : Hp → Nat → Int32 → Option (Int32 × Hp)} {r_X4_branch : Hp → Nat → Int32 → Int32 → Option (Int32 × Hp)} {r_X4_tree : Hp → Nat → Int32 → Option (Int32 × Hp)} (mr_X4_attempt : ∀ {h : Hp} {x0 : Nat} {x1 : Int32} {x2 : Int32} {o : Int32 × Hp}, r_X4_attempt h x0 x1 x2 = some o → Le h o.2) (mr_X4_reply : ∀ {h : Hp} {x0 : Nat} {x1 : Int32} {o : Int32 × Hp}, r_X4_reply h x0 x1 = some o → Le h o.2) (mr_X4_goOn : ∀ {h : Hp} {x0 : Nat} {x1 : Int32} {o : Int32 × Hp}, r_X4_goOn h x0 x1 = some o → Le h o.2) (mr_X4_branch : ∀ {h : Hp} {x0 : Nat} {x1 : Int32} {x2 : Int32} {o : Int32 × Hp}, r_X4_branch h x0 x1 x2 = some o → Le h o.2) (mr_X4_tree : ∀ {h : Hp} {x0 : Nat} {x1 : Int32} {o : Int32 × Hp}, r_X4_tree h x0 x1 = some o → Le h o.2) : ∀ (f : Nat) {h : Hp} {x0 : Nat} {x1 : Int32} {x2 : Nat} {x3 : Int32} {x4 : Int32} {x5 : Int32}, sX4_tree_151 F r_X4_attempt r_X4_reply r_X4_goOn r_X4_branch r_X4_tree f h x0 x1 x2 x3 x4 x5 = some o → Le h o.2 := by
  intro f
  induction f with
  | zero =>
    intro h x0 x1 x2 x3 x4 x5 hE
    rw [sX4_tree_151] at hE
    cases hE
  | succ f ih =>
    intro h x0 x1 x2 x3 x4 x5 hE
    rw [sX4_tree_151] at hE
    have mk_151 : ∀ (h : Hp) (x0 : Nat) (x1 : Int32) (x2 : Nat) (x3 : Int32) (x4 : Int32) (x5 : Int32), sX4_tree_151 F r_X4_attempt r_X4_reply r_X4_goOn r_X4_branch r_X4_tree f h x0 x1 x2 x3 x4 x5 = some o → Le h o.2 := fun h x0 x1 x2 x3 x4 x5 hE => ih hE
    rcases br_e hE with ⟨_, hE⟩ | ⟨_, hE⟩
    · exact moX4_tree_268 mr_X4_attempt mr_X4_reply mr_X4_goOn mr_X4_branch mr_X4_tree hE
    · rcases br_e hE with ⟨_, hE⟩ | ⟨_, hE⟩
      · obtain ⟨r_3, er_3, hE⟩ := cl_e hE
        obtain ⟨g_4, hE⟩ := gd_e hE
        obtain ⟨r_5, er_5, hE⟩ := cl_e hE
        obtain ⟨r_6, er_6, hE⟩ := cl_e hE
        obtain ⟨g_7, hE⟩ := gd_e hE
        obtain ⟨r_8, er_8, hE⟩ := cl_e hE
        obtain ⟨o_9, eo_9, hE⟩ := cl_e hE
        refine (moX3_copyFrom eo_9).tr ?_
        obtain ⟨r_10, er_10, hE⟩ := cl_e hE
        obtain ⟨g_11, hE⟩ := gd_e hE
        obtain ⟨o_12, eo_12, hE⟩ := cl_e hE
        refine (moX5_make eo_12).tr ?_
        rcases br_e hE with ⟨_, hE⟩ | ⟨_, hE⟩
        · exact moX4_tree_216 mr_X4_attempt mr_X4_reply mr_X4_goOn mr_X4_branch mr_X4_tree mk_151 hE
        · rcases br_e hE with ⟨_, hE⟩ | ⟨_, hE⟩
          · exact moX4_tree_216 mr_X4_attempt mr_X4_reply mr_X4_goOn mr_X4_branch mr_X4_tree mk_151 hE
          · exact moX4_tree_233 mr_X4_attempt mr_X4_reply mr_X4_goOn mr_X4_branch mr_X4_tree mk_151 hE
      · exact moX4_tree_268 mr_X4_attempt mr_X4_reply mr_X4_goOn mr_X4_branch mr_X4_tree hE
set_option maxRecDepth 20000 in
theorem moX4_tree_145 {o : Int32 × Hp} {F : Nat} {r_X4_attempt : Hp → Nat → Int32 → Int32 → Option (Int32 × Hp)} {r_X4_reply : Hp → Nat → Int32 → Option (Int32 × Hp)} {r_X4_goOn : Hp → Nat → Int32 → Option (Int32 × Hp)} {r_X4_branch : Hp → Nat → Int32 → Int32 → Option (Int32 × Hp)} {r_X4_tree : Hp → Nat → Int32 → Option (Int32 × Hp)} (mr_X4_attempt : ∀ {h : Hp} {x0 : Nat} {x1 : Int32} {x2 : Int32} {o : Int32 × Hp}, r_X4_attempt h x0 x1 x2 = some o → Le h o.2) (mr_X4_reply : ∀ {h : Hp} {x0 : Nat} {x1 : Int32} {o : Int32 × Hp}, r_X4_reply h x0 x1 = some o → Le h o.2) (mr_X4_goOn : ∀ {h : Hp} {x0 : Nat} {x1 : Int32} {o : Int32 × Hp}, r_X4_goOn h x0 x1 = some o → Le h o.2) (mr_X4_branch : ∀ {h : Hp} {x0 : Nat} {x1 : Int32} {x2 : Int32} {o : Int32 × Hp}, r_X4_branch h x0 x1 x2 = some o → Le h o.2) (mr_X4_tree : ∀ {h : Hp} {x0 : Nat} {x1 : Int32} {o : Int32 × Hp}, r_X4_tree h x0 x1 = some o → Le h o.2) {h : Hp} {x0 : Nat} {x1 : Int32} {x2 : Nat} {x3 : Int32} (hE : sX4_tree_145 F r_X4_attempt r_X4_reply r_X4_goOn r_X4_branch r_X4_tree h x0 x1 x2 x3 = some o) : Le h o.2 := by
  exact moX4_tree_151 mr_X4_attempt mr_X4_reply mr_X4_goOn mr_X4_branch mr_X4_tree _ hE
set_option maxRecDepth 20000 in
theorem moX4_tree_122 {o : Int32 × Hp} {F : Nat} {r_X4_attempt : Hp → Nat → Int32 → Int32 → Option (Int32 × Hp)} {r_X4_reply : Hp → Nat → Int32 → Option (Int32 × Hp)} {r_X4_goOn : Hp → Nat → Int32 → Option (Int32 × Hp)} {r_X4_branch : Hp → Nat → Int32 → Int32 → Option (Int32 × Hp)} {r_X4_tree : Hp → Nat → Int32 → Option (Int32 × Hp)} (mr_X4_attempt : ∀ {h : Hp} {x0 : Nat} {x1 : Int32} {x2 : Int32} {o : Int32 × Hp}, r_X4_attempt h x0 x1 x2 = some o → Le h o.2) (mr_X4_reply : ∀ {h : Hp} {x0 : Nat} {x1 : Int32} {o : Int32 × Hp}, r_X4_reply h x0 x1 = some o → Le h o.2) (mr_X4_goOn : ∀ {h : Hp} {x0 : Nat} {x1 : Int32} {o : Int32 × Hp}, r_X4_goOn h x0 x1 = some o → Le h o.2) (mr_X4_branch : ∀ {h : Hp} {x0 : Nat} {x1 : Int32} {x2 : Int32} {o : Int32 × Hp}, r_X4_branch h x0 x1 x2 = some o → Le h o.2) (mr_X4_tree : ∀ {h : Hp} {x0 : Nat} {x1 : Int32} {o : Int32 × Hp}, r_X4_tree h x0 x1 = some o → Le h o.2) {h : Hp} {x0 : Nat} {x1 : Int32} {x2 : Nat} {x3 : Int32} {t0 : Int32} {t1 : Nat} (hE : sX4_tree_122 F r_X4_attempt r_X4_reply r_X4_goOn r_X4_branch r_X4_tree h x0 x1 x2 x3 t0 t1 = some o) : Le h o.2 := by
  obtain ⟨g_1, hE⟩ := gd_e hE
  obtain ⟨h_2, eh_2, hE⟩ := nm_e2 hE
  refine (le_I eh_2).tr ?_
  rcases br_e hE with ⟨_, hE⟩ | ⟨_, hE⟩
  · rcases br_e hE with ⟨_, hE⟩ | ⟨_, hE⟩
    · exact le_some2 hE
    · exact moX4_tree_145 mr_X4_attempt mr_X4_reply mr_X4_goOn mr_X4_branch mr_X4_tree hE
  · exact moX4_tree_145 mr_X4_attempt mr_X4_reply mr_X4_goOn mr_X4_branch mr_X4_tree hE
set_option maxRecDepth 20000 in
theorem moX4_tree_117 {o : Int32 × Hp} {F : Nat} {r_X4_attempt : Hp → Nat → Int32 → Int32 → Option (Int32 × Hp)} {r_X4_reply : Hp → Nat → Int32 → Option (Int32 × Hp)} {r_X4_goOn : Hp → Nat → Int32 → Option (Int32 × Hp)} {r_X4_branch : Hp → Nat → Int32 → Int32 → Option (Int32 × Hp)} {r_X4_tree : Hp → Nat → Int32 → Option (Int32 × Hp)} (mr_X4_attempt : ∀ {h : Hp} {x0 : Nat} {x1 : Int32} {x2 : Int32} {o : Int32 × Hp}, r_X4_attempt h x0 x1 x2 = some o → Le h o.2) (mr_X4_reply : ∀ {h : Hp} {x0 : Nat} {x1 : Int32} {o : Int32 × Hp}, r_X4_reply h x0 x1 = some o → Le h o.2) (mr_X4_goOn : ∀ {h : Hp} {x0 : Nat} {x1 : Int32} {o : Int32 × Hp}, r_X4_goOn h x0 x1 = some o → Le h o.2) (mr_X4_branch : ∀ {h : Hp} {x0 : Nat} {x1 : Int32} {x2 : Int32} {o : Int32 × Hp}, r_X4_branch h x0 x1 x2 = some o → Le h o.2) (mr_X4_tree : ∀ {h : Hp} {x0 : Nat} {x1 : Int32} {o : Int32 × Hp}, r_X4_tree h x0 x1 = some o → Le h o.2) {h : Hp} {x0 : Nat} {x1 : Int32} {x2 : Nat} {x3 : Int32} {t0 : Nat} (hE : sX4_tree_117 F r_X4_attempt r_X4_reply r_X4_goOn r_X4_branch r_X4_tree h x0 x1 x2 x3 t0 = some o) : Le h o.2 := by
  exact moX4_tree_122 mr_X4_attempt mr_X4_reply mr_X4_goOn mr_X4_branch mr_X4_tree hE
set_option maxRecDepth 20000 in
theorem moX4_tree_87 {o : Int32 × Hp} {F : Nat} {r_X4_attempt : Hp → Nat → Int32 → Int32 → Option (Int32 × Hp)} {r_X4_reply : Hp → Nat → Int32 → Option (Int32 × Hp)} {r_X4_goOn : Hp → Nat → Int32 → Option (Int32 × Hp)} {r_X4_branch : Hp → Nat → Int32 → Int32 → Option (Int32 × Hp)} {r_X4_tree : Hp → Nat → Int32 → Option (Int32 × Hp)} (mr_X4_attempt : ∀ {h : Hp} {x0 : Nat} {x1 : Int32} {x2 : Int32} {o : Int32 × Hp}, r_X4_attempt h x0 x1 x2 = some o → Le h o.2) (mr_X4_reply : ∀ {h : Hp} {x0 : Nat} {x1 : Int32} {o : Int32 × Hp}, r_X4_reply h x0 x1 = some o → Le h o.2) (mr_X4_goOn : ∀ {h : Hp} {x0 : Nat} {x1 : Int32} {o : Int32 × Hp}, r_X4_goOn h x0 x1 = some o → Le h o.2) (mr_X4_branch : ∀ {h : Hp} {x0 : Nat} {x1 : Int32} {x2 : Int32} {o : Int32 × Hp}, r_X4_branch h x0 x1 x2 = some o → Le h o.2) (mr_X4_tree : ∀ {h : Hp} {x0 : Nat} {x1 : Int32} {o : Int32 × Hp}, r_X4_tree h x0 x1 = some o → Le h o.2) {h : Hp} {x0 : Nat} {x1 : Int32} {x2 : Nat} {x3 : Int32} {t0 : Int32} {t1 : Int32} {t2 : Nat} (hE : sX4_tree_87 F r_X4_attempt r_X4_reply r_X4_goOn r_X4_branch r_X4_tree h x0 x1 x2 x3 t0 t1 t2 = some o) : Le h o.2 := by
  obtain ⟨g_1, hE⟩ := gd_e hE
  obtain ⟨h_2, eh_2, hE⟩ := nm_e2 hE
  refine (le_I eh_2).tr ?_
  obtain ⟨r_3, er_3, hE⟩ := cl_e hE
  obtain ⟨g_4, hE⟩ := gd_e hE
  obtain ⟨g_5, hE⟩ := gd_e hE
  obtain ⟨h_6, eh_6, hE⟩ := nm_e2 hE
  refine (le_I eh_6).tr ?_
  rcases br_e hE with ⟨_, hE⟩ | ⟨_, hE⟩
  · obtain ⟨r_8, er_8, hE⟩ := cl_e hE
    obtain ⟨g_9, hE⟩ := gd_e hE
    rcases br_e hE with ⟨_, hE⟩ | ⟨_, hE⟩
    · exact moX4_tree_122 mr_X4_attempt mr_X4_reply mr_X4_goOn mr_X4_branch mr_X4_tree hE
    · exact moX4_tree_117 mr_X4_attempt mr_X4_reply mr_X4_goOn mr_X4_branch mr_X4_tree hE
  · exact moX4_tree_117 mr_X4_attempt mr_X4_reply mr_X4_goOn mr_X4_branch mr_X4_tree hE
set_option maxRecDepth 20000 in
theorem moX4_tree_58 {o : Int32 × Hp} {F : Nat} {r_X4_attempt : Hp → Nat → Int32 → Int32 → Option (Int32 × Hp)} {r_X4_reply : Hp → Nat → Int32 → Option (Int32 × Hp)} {r_X4_goOn : Hp → Nat → Int32 → Option (Int32 × Hp)} {r_X4_branch : Hp → Nat → Int32 → Int32 → Option (Int32 × Hp)} {r_X4_tree : Hp → Nat → Int32 → Option (Int32 × Hp)} (mr_X4_attempt : ∀ {h : Hp} {x0 : Nat} {x1 : Int32} {x2 : Int32} {o : Int32 × Hp}, r_X4_attempt h x0 x1 x2 = some o → Le h o.2) (mr_X4_reply : ∀ {h : Hp} {x0 : Nat} {x1 : Int32} {o : Int32 × Hp}, r_X4_reply h x0 x1 = some o → Le h o.2) (mr_X4_goOn : ∀ {h : Hp} {x0 : Nat} {x1 : Int32} {o : Int32 × Hp}, r_X4_goOn h x0 x1 = some o → Le h o.2) (mr_X4_branch : ∀ {h : Hp} {x0 : Nat} {x1 : Int32} {x2 : Int32} {o : Int32 × Hp}, r_X4_branch h x0 x1 x2 = some o → Le h o.2) (mr_X4_tree : ∀ {h : Hp} {x0 : Nat} {x1 : Int32} {o : Int32 × Hp}, r_X4_tree h x0 x1 = some o → Le h o.2) {h : Hp} {x0 : Nat} {x1 : Int32} {x2 : Nat} {x3 : Int32} {t0 : Int32} {t1 : Nat} (hE : sX4_tree_58 F r_X4_attempt r_X4_reply r_X4_goOn r_X4_branch r_X4_tree h x0 x1 x2 x3 t0 t1 = some o) : Le h o.2 := by
  obtain ⟨h_1, eh_1, hE⟩ := nm_e2 hE
  refine (le_I eh_1).tr ?_
  obtain ⟨r_2, er_2, hE⟩ := cl_e hE
  rcases br_e hE with ⟨_, hE⟩ | ⟨_, hE⟩
  · obtain ⟨r_4, er_4, hE⟩ := cl_e hE
    obtain ⟨r_5, er_5, hE⟩ := cl_e hE
    obtain ⟨g_6, hE⟩ := gd_e hE
    obtain ⟨r_7, er_7, hE⟩ := cl_e hE
    obtain ⟨o_8, eo_8, hE⟩ := cl_e hE
    refine (moX5_endOf eo_8).tr ?_
    exact moX4_tree_87 mr_X4_attempt mr_X4_reply mr_X4_goOn mr_X4_branch mr_X4_tree hE
  · exact moX4_tree_87 mr_X4_attempt mr_X4_reply mr_X4_goOn mr_X4_branch mr_X4_tree hE
set_option maxRecDepth 20000 in
theorem mooX4_tree {o : Int32 × Hp} {F : Nat} {r_X4_attempt : Hp → Nat → Int32 → Int32 → Option (Int32 × Hp)} {r_X4_reply : Hp → Nat → Int32 → Option (Int32 × Hp)} {r_X4_goOn : Hp → Nat → Int32 → Option (Int32 × Hp)} {r_X4_branch : Hp → Nat → Int32 → Int32 → Option (Int32 × Hp)} {r_X4_tree : Hp → Nat → Int32 → Option (Int32 × Hp)} (mr_X4_attempt : ∀ {h : Hp} {x0 : Nat} {x1 : Int32} {x2 : Int32} {o : Int32 × Hp}, r_X4_attempt h x0 x1 x2 = some o → Le h o.2) (mr_X4_reply : ∀ {h : Hp} {x0 : Nat} {x1 : Int32} {o : Int32 × Hp}, r_X4_reply h x0 x1 = some o → Le h o.2) (mr_X4_goOn : ∀ {h : Hp} {x0 : Nat} {x1 : Int32} {o : Int32 × Hp}, r_X4_goOn h x0 x1 = some o → Le h o.2) (mr_X4_branch : ∀ {h : Hp} {x0 : Nat} {x1 : Int32} {x2 : Int32} {o : Int32 × Hp}, r_X4_branch h x0 x1 x2 = some o → Le h o.2) (mr_X4_tree : ∀ {h : Hp} {x0 : Nat} {x1 : Int32} {o : Int32 × Hp}, r_X4_tree h x0 x1 = some o → Le h o.2) {h : Hp} {x0 : Nat} {x1 : Int32} (hE : oX4_tree F r_X4_attempt r_X4_reply r_X4_goOn r_X4_branch r_X4_tree h x0 x1 = some o) : Le h o.2 := by
  rcases br_e hE with ⟨_, hE⟩ | ⟨_, hE⟩
  · exact moX4_tree_18 mr_X4_attempt mr_X4_reply mr_X4_goOn mr_X4_branch mr_X4_tree hE
  · rcases br_e hE with ⟨_, hE⟩ | ⟨_, hE⟩
    · exact moX4_tree_18 mr_X4_attempt mr_X4_reply mr_X4_goOn mr_X4_branch mr_X4_tree hE
    · rcases br_e hE with ⟨_, hE⟩ | ⟨_, hE⟩
      · obtain ⟨r_4, er_4, hE⟩ := cl_e hE
        obtain ⟨g_5, hE⟩ := gd_e hE
        obtain ⟨r_6, er_6, hE⟩ := cl_e hE
        obtain ⟨r_7, er_7, hE⟩ := cl_e hE
        obtain ⟨r_8, er_8, hE⟩ := cl_e hE
        obtain ⟨g_9, hE⟩ := gd_e hE
        obtain ⟨r_10, er_10, hE⟩ := cl_e hE
        obtain ⟨o_11, eo_11, hE⟩ := cl_e hE
        refine (moX5_collect eo_11).tr ?_
        rcases br_e hE with ⟨_, hE⟩ | ⟨_, hE⟩
        · exact moX4_tree_58 mr_X4_attempt mr_X4_reply mr_X4_goOn mr_X4_branch mr_X4_tree hE
        · exact moX4_tree_58 mr_X4_attempt mr_X4_reply mr_X4_goOn mr_X4_branch mr_X4_tree hE
      · exact moX4_tree_18 mr_X4_attempt mr_X4_reply mr_X4_goOn mr_X4_branch mr_X4_tree hE
set_option maxRecDepth 20000 in
theorem bX4_tree_18 {p : Program} {l : Launch} {e : Env} {s : State} {m : MethodId} {args : Array Value} {below : List Frame} {meth : Method} {c : Code} {X : Ec} {h0 : Hp} {o : Int32 × Hp} {d : Nat} {r_X4_attempt : Hp → Nat → Int32 → Int32 → Option (Int32 × Hp)} {r_X4_reply : Hp → Nat → Int32 → Option (Int32 × Hp)} {r_X4_goOn : Hp → Nat → Int32 → Option (Int32 × Hp)} {r_X4_branch : Hp → Nat → Int32 → Int32 → Option (Int32 × Hp)} {r_X4_tree : Hp → Nat → Int32 → Option (Int32 × Hp)} {F : Nat} (C : Cx X p s m args meth c RX4 cX4_tree 8 (some .int) "tree") (hr_X4_attempt : ∀ {h : Hp} {x0 : Nat} {x1 : Int32} {x2 : Int32} {o : Int32 × Hp}, hK h x0 = 4 → r_X4_attempt h x0 x1 x2 = some o → MetI l yX4_attempt cX4_attempt 6 (some .int)  (d + 6) (d * 27 + 161) X [.ref x0, .int x1, .int x2] h o) (hr_X4_reply : ∀ {h : Hp} {x0 : Nat} {x1 : Int32} {o : Int32 × Hp}, hK h x0 = 4 → r_X4_reply h x0 x1 = some o → MetI l yX4_reply cX4_reply 3 (some .int)  (d + 6) (d * 27 + 161) X [.ref x0, .int x1] h o) (hr_X4_goOn : ∀ {h : Hp} {x0 : Nat} {x1 : Int32} {o : Int32 × Hp}, hK h x0 = 4 → r_X4_goOn h x0 x1 = some o → MetI l yX4_goOn cX4_goOn 3 (some .int)  (d + 6) (d * 27 + 161) X [.ref x0, .int x1] h o) (hr_X4_branch : ∀ {h : Hp} {x0 : Nat} {x1 : Int32} {x2 : Int32} {o : Int32 × Hp}, hK h x0 = 4 → r_X4_branch h x0 x1 x2 = some o → MetI l yX4_branch cX4_branch 3 (some .int)  (d + 6) (d * 27 + 161) X [.ref x0, .int x1, .int x2] h o) (hr_X4_tree : ∀ {h : Hp} {x0 : Nat} {x1 : Int32} {o : Int32 × Hp}, hK h x0 = 4 → r_X4_tree h x0 x1 = some o → MetI l yX4_tree cX4_tree 8 (some .int)  (d + 6) (d * 27 + 161) X [.ref x0, .int x1] h o) (mr_X4_attempt : ∀ {h : Hp} {x0 : Nat} {x1 : Int32} {x2 : Int32} {o : Int32 × Hp}, r_X4_attempt h x0 x1 x2 = some o → Le h o.2) (mr_X4_reply : ∀ {h : Hp} {x0 : Nat} {x1 : Int32} {o : Int32 × Hp}, r_X4_reply h x0 x1 = some o → Le h o.2) (mr_X4_goOn : ∀ {h : Hp} {x0 : Nat} {x1 : Int32} {o : Int32 × Hp}, r_X4_goOn h x0 x1 = some o → Le h o.2) (mr_X4_branch : ∀ {h : Hp} {x0 : Nat} {x1 : Int32} {x2 : Int32} {o : Int32 × Hp}, r_X4_branch h x0 x1 x2 = some o → Le h o.2) (mr_X4_tree : ∀ {h : Hp} {x0 : Nat} {x1 : Int32} {o : Int32 × Hp}, r_X4_tree h x0 x1 = some o → Le h o.2) {h : Hp} {H : Heap} {locs : List Loc} (hkm : Km h0 h) (hW : Wx X h H) (hZ : va_S (aA (eB X)) s.heap H locs) (ls : Array Slot) (hl : lv_has ls 8 []) (hE : sX4_tree_18 F r_X4_attempt r_X4_reply r_X4_goOn r_X4_branch r_X4_tree h  = some o) : W p l e (rm (d + 1 + 6) ((d + 1) * 27 + 161)) s m args below meth c H locs 0 0 (MQ below (QI X h0 o.1 o.2) args s 0 0 (aA (eB X))) (F0 m 18 ls []) := by
  refine lv_iconst (v := (0 : Int32)) C.1 C.2.1 dX4_tree_18 (by decide) ?_
  exact x_iret C rfl rfl hW hZ hkm hE dX4_tree_19
set_option maxRecDepth 20000 in
theorem bX4_tree_268 {p : Program} {l : Launch} {e : Env} {s : State} {m : MethodId} {args : Array Value} {below : List Frame} {meth : Method} {c : Code} {X : Ec} {h0 : Hp} {o : Int32 × Hp} {d : Nat} {r_X4_attempt : Hp → Nat → Int32 → Int32 → Option (Int32 × Hp)} {r_X4_reply : Hp → Nat → Int32 → Option (Int32 × Hp)} {r_X4_goOn : Hp → Nat → Int32 → Option (Int32 × Hp)} {r_X4_branch : Hp → Nat → Int32 → Int32 → Option (Int32 × Hp)} {r_X4_tree : Hp → Nat → Int32 → Option (Int32 × Hp)} {F : Nat} (C : Cx X p s m args meth c RX4 cX4_tree 8 (some .int) "tree") (hr_X4_attempt : ∀ {h : Hp} {x0 : Nat} {x1 : Int32} {x2 : Int32} {o : Int32 × Hp}, hK h x0 = 4 → r_X4_attempt h x0 x1 x2 = some o → MetI l yX4_attempt cX4_attempt 6 (some .int)  (d + 6) (d * 27 + 161) X [.ref x0, .int x1, .int x2] h o) (hr_X4_reply : ∀ {h : Hp} {x0 : Nat} {x1 : Int32} {o : Int32 × Hp}, hK h x0 = 4 → r_X4_reply h x0 x1 = some o → MetI l yX4_reply cX4_reply 3 (some .int)  (d + 6) (d * 27 + 161) X [.ref x0, .int x1] h o) (hr_X4_goOn : ∀ {h : Hp} {x0 : Nat} {x1 : Int32} {o : Int32 × Hp}, hK h x0 = 4 → r_X4_goOn h x0 x1 = some o → MetI l yX4_goOn cX4_goOn 3 (some .int)  (d + 6) (d * 27 + 161) X [.ref x0, .int x1] h o) (hr_X4_branch : ∀ {h : Hp} {x0 : Nat} {x1 : Int32} {x2 : Int32} {o : Int32 × Hp}, hK h x0 = 4 → r_X4_branch h x0 x1 x2 = some o → MetI l yX4_branch cX4_branch 3 (some .int)  (d + 6) (d * 27 + 161) X [.ref x0, .int x1, .int x2] h o) (hr_X4_tree : ∀ {h : Hp} {x0 : Nat} {x1 : Int32} {o : Int32 × Hp}, hK h x0 = 4 → r_X4_tree h x0 x1 = some o → MetI l yX4_tree cX4_tree 8 (some .int)  (d + 6) (d * 27 + 161) X [.ref x0, .int x1] h o) (mr_X4_attempt : ∀ {h : Hp} {x0 : Nat} {x1 : Int32} {x2 : Int32} {o : Int32 × Hp}, r_X4_attempt h x0 x1 x2 = some o → Le h o.2) (mr_X4_reply : ∀ {h : Hp} {x0 : Nat} {x1 : Int32} {o : Int32 × Hp}, r_X4_reply h x0 x1 = some o → Le h o.2) (mr_X4_goOn : ∀ {h : Hp} {x0 : Nat} {x1 : Int32} {o : Int32 × Hp}, r_X4_goOn h x0 x1 = some o → Le h o.2) (mr_X4_branch : ∀ {h : Hp} {x0 : Nat} {x1 : Int32} {x2 : Int32} {o : Int32 × Hp}, r_X4_branch h x0 x1 x2 = some o → Le h o.2) (mr_X4_tree : ∀ {h : Hp} {x0 : Nat} {x1 : Int32} {o : Int32 × Hp}, r_X4_tree h x0 x1 = some o → Le h o.2) {h : Hp} {x4 : Int32} {H : Heap} {locs : List Loc} (hkm : Km h0 h) (hW : Wx X h H) (hZ : va_S (aA (eB X)) s.heap H locs) (ls : Array Slot) (hl : lv_has ls 8 [(4, .int x4)]) (hE : sX4_tree_268 F r_X4_attempt r_X4_reply r_X4_goOn r_X4_branch r_X4_tree h x4 = some o) : W p l e (rm (d + 1 + 6) ((d + 1) * 27 + 161)) s m args below meth c H locs 0 0 (MQ below (QI X h0 o.1 o.2) args s 0 0 (aA (eB X))) (F0 m 268 ls []) := by
  refine lv_iload C.1 C.2.1 dX4_tree_268 (lv_at hl 0 rfl) ?_
  exact x_iret C rfl rfl hW hZ hkm hE dX4_tree_270
set_option maxRecDepth 20000 in
theorem bX4_tree_255 {p : Program} {l : Launch} {e : Env} {s : State} {m : MethodId} {args : Array Value} {below : List Frame} {meth : Method} {c : Code} {X : Ec} {h0 : Hp} {o : Int32 × Hp} {d : Nat} {r_X4_attempt : Hp → Nat → Int32 → Int32 → Option (Int32 × Hp)} {r_X4_reply : Hp → Nat → Int32 → Option (Int32 × Hp)} {r_X4_goOn : Hp → Nat → Int32 → Option (Int32 × Hp)} {r_X4_branch : Hp → Nat → Int32 → Int32 → Option (Int32 × Hp)} {r_X4_tree : Hp → Nat → Int32 → Option (Int32 × Hp)} {k_151 : Hp → Nat → Int32 → Nat → Int32 → Int32 → Int32 → Option (Int32 × Hp)} {F : Nat} (C : Cx X p s m args meth c RX4 cX4_tree 8 (some .int) "tree") (hr_X4_attempt : ∀ {h : Hp} {x0 : Nat} {x1 : Int32} {x2 : Int32} {o : Int32 × Hp}, hK h x0 = 4 → r_X4_attempt h x0 x1 x2 = some o → MetI l yX4_attempt cX4_attempt 6 (some .int)  (d + 6) (d * 27 + 161) X [.ref x0, .int x1, .int x2] h o) (hr_X4_reply : ∀ {h : Hp} {x0 : Nat} {x1 : Int32} {o : Int32 × Hp}, hK h x0 = 4 → r_X4_reply h x0 x1 = some o → MetI l yX4_reply cX4_reply 3 (some .int)  (d + 6) (d * 27 + 161) X [.ref x0, .int x1] h o) (hr_X4_goOn : ∀ {h : Hp} {x0 : Nat} {x1 : Int32} {o : Int32 × Hp}, hK h x0 = 4 → r_X4_goOn h x0 x1 = some o → MetI l yX4_goOn cX4_goOn 3 (some .int)  (d + 6) (d * 27 + 161) X [.ref x0, .int x1] h o) (hr_X4_branch : ∀ {h : Hp} {x0 : Nat} {x1 : Int32} {x2 : Int32} {o : Int32 × Hp}, hK h x0 = 4 → r_X4_branch h x0 x1 x2 = some o → MetI l yX4_branch cX4_branch 3 (some .int)  (d + 6) (d * 27 + 161) X [.ref x0, .int x1, .int x2] h o) (hr_X4_tree : ∀ {h : Hp} {x0 : Nat} {x1 : Int32} {o : Int32 × Hp}, hK h x0 = 4 → r_X4_tree h x0 x1 = some o → MetI l yX4_tree cX4_tree 8 (some .int)  (d + 6) (d * 27 + 161) X [.ref x0, .int x1] h o) (mr_X4_attempt : ∀ {h : Hp} {x0 : Nat} {x1 : Int32} {x2 : Int32} {o : Int32 × Hp}, r_X4_attempt h x0 x1 x2 = some o → Le h o.2) (mr_X4_reply : ∀ {h : Hp} {x0 : Nat} {x1 : Int32} {o : Int32 × Hp}, r_X4_reply h x0 x1 = some o → Le h o.2) (mr_X4_goOn : ∀ {h : Hp} {x0 : Nat} {x1 : Int32} {o : Int32 × Hp}, r_X4_goOn h x0 x1 = some o → Le h o.2) (mr_X4_branch : ∀ {h : Hp} {x0 : Nat} {x1 : Int32} {x2 : Int32} {o : Int32 × Hp}, r_X4_branch h x0 x1 x2 = some o → Le h o.2) (mr_X4_tree : ∀ {h : Hp} {x0 : Nat} {x1 : Int32} {o : Int32 × Hp}, r_X4_tree h x0 x1 = some o → Le h o.2) (hk_151 : ∀ (h : Hp) (x0 : Nat) (x1 : Int32) (x2 : Nat) (x3 : Int32) (x4 : Int32) (x5 : Int32) (H : Heap) (locs : List Loc), hK h x0 = 4 → hK h x2 = 17 → Km h0 h → Wx X h H → va_S (aA (eB X)) s.heap H locs → ∀ (ls : Array Slot), lv_has ls 8 [(0, .ref x0), (1, .int x1), (2, .ref x2), (3, .int x3), (4, .int x4), (5, .int x5)] → k_151 h x0 x1 x2 x3 x4 x5 = some o → W p l e (rm (d + 1 + 6) ((d + 1) * 27 + 161)) s m args below meth c H locs 0 0 (MQ below (QI X h0 o.1 o.2) args s 0 0 (aA (eB X))) (F0 m 151 ls [])) {h : Hp} {x0 : Nat} {x1 : Int32} {x2 : Nat} {x3 : Int32} {x4 : Int32} {x5 : Int32} {x7 : Int32} {H : Heap} {locs : List Loc} (k_x0 : hK h x0 = 4) (k_x2 : hK h x2 = 17) (hkm : Km h0 h) (hW : Wx X h H) (hZ : va_S (aA (eB X)) s.heap H locs) (ls : Array Slot) (hl : lv_has ls 8 [(0, .ref x0), (1, .int x1), (2, .ref x2), (3, .int x3), (4, .int x4), (5, .int x5), (7, .int x7)]) (hE : sX4_tree_255 F r_X4_attempt r_X4_reply r_X4_goOn r_X4_branch r_X4_tree k_151 h x0 x1 x2 x3 x4 x5 x7 = some o) : W p l e (rm (d + 1 + 6) ((d + 1) * 27 + 161)) s m args below meth c H locs 0 0 (MQ below (QI X h0 o.1 o.2) args s 0 0 (aA (eB X))) (F0 m 255 ls []) := by
  refine lv_iload C.1 C.2.1 dX4_tree_255 (lv_at hl 4 rfl) ?_
  refine lv_iload C.1 C.2.1 dX4_tree_257 (lv_at hl 6 rfl) ?_
  refine lv_iadd C.1 C.2.1 dX4_tree_259 ?_
  obtain ⟨v_1, ev_1, hE⟩ := nm_e2 hE
  refine x_nmI ev_1 ?_
  refine lv_istore (lv' := [(4, .int v_1), (0, .ref x0), (1, .int x1), (2, .ref x2), (3, .int x3), (5, .int x5), (7, .int x7)]) C.1 C.2.1 dX4_tree_260 hl (by decide) rfl (fun ls hl => ?_)
  obtain ⟨v_2, ev_2, hE⟩ := nm_e2 hE
  refine lv_iinc (v := v_2) (lv' := [(5, .int v_2), (4, .int v_1), (0, .ref x0), (1, .int x1), (2, .ref x2), (3, .int x3), (7, .int x7)]) C.1 C.2.1 dX4_tree_262 hl (k := 5) rfl (by rw [ev_2]; rfl) (by decide) rfl (fun ls hl => ?_)
  refine lv_goto (tgt := 151) C.1 C.2.1 dX4_tree_265 (by decide) ?_
  exact hk_151 _ _ _ _ _ _ _ _ _ k_x0 k_x2 hkm hW hZ _ (lv_sub hl [2, 3, 4, 5, 1, 0] rfl) hE
set_option maxRecDepth 20000 in
theorem bX4_tree_233 {p : Program} {l : Launch} {e : Env} {s : State} {m : MethodId} {args : Array Value} {below : List Frame} {meth : Method} {c : Code} {X : Ec} {h0 : Hp} {o : Int32 × Hp} {d : Nat} {r_X4_attempt : Hp → Nat → Int32 → Int32 → Option (Int32 × Hp)} {r_X4_reply : Hp → Nat → Int32 → Option (Int32 × Hp)} {r_X4_goOn : Hp → Nat → Int32 → Option (Int32 × Hp)} {r_X4_branch : Hp → Nat → Int32 → Int32 → Option (Int32 × Hp)} {r_X4_tree : Hp → Nat → Int32 → Option (Int32 × Hp)} {k_151 : Hp → Nat → Int32 → Nat → Int32 → Int32 → Int32 → Option (Int32 × Hp)} {F : Nat} (C : Cx X p s m args meth c RX4 cX4_tree 8 (some .int) "tree") (hr_X4_attempt : ∀ {h : Hp} {x0 : Nat} {x1 : Int32} {x2 : Int32} {o : Int32 × Hp}, hK h x0 = 4 → r_X4_attempt h x0 x1 x2 = some o → MetI l yX4_attempt cX4_attempt 6 (some .int)  (d + 6) (d * 27 + 161) X [.ref x0, .int x1, .int x2] h o) (hr_X4_reply : ∀ {h : Hp} {x0 : Nat} {x1 : Int32} {o : Int32 × Hp}, hK h x0 = 4 → r_X4_reply h x0 x1 = some o → MetI l yX4_reply cX4_reply 3 (some .int)  (d + 6) (d * 27 + 161) X [.ref x0, .int x1] h o) (hr_X4_goOn : ∀ {h : Hp} {x0 : Nat} {x1 : Int32} {o : Int32 × Hp}, hK h x0 = 4 → r_X4_goOn h x0 x1 = some o → MetI l yX4_goOn cX4_goOn 3 (some .int)  (d + 6) (d * 27 + 161) X [.ref x0, .int x1] h o) (hr_X4_branch : ∀ {h : Hp} {x0 : Nat} {x1 : Int32} {x2 : Int32} {o : Int32 × Hp}, hK h x0 = 4 → r_X4_branch h x0 x1 x2 = some o → MetI l yX4_branch cX4_branch 3 (some .int)  (d + 6) (d * 27 + 161) X [.ref x0, .int x1, .int x2] h o) (hr_X4_tree : ∀ {h : Hp} {x0 : Nat} {x1 : Int32} {o : Int32 × Hp}, hK h x0 = 4 → r_X4_tree h x0 x1 = some o → MetI l yX4_tree cX4_tree 8 (some .int)  (d + 6) (d * 27 + 161) X [.ref x0, .int x1] h o) (mr_X4_attempt : ∀ {h : Hp} {x0 : Nat} {x1 : Int32} {x2 : Int32} {o : Int32 × Hp}, r_X4_attempt h x0 x1 x2 = some o → Le h o.2) (mr_X4_reply : ∀ {h : Hp} {x0 : Nat} {x1 : Int32} {o : Int32 × Hp}, r_X4_reply h x0 x1 = some o → Le h o.2) (mr_X4_goOn : ∀ {h : Hp} {x0 : Nat} {x1 : Int32} {o : Int32 × Hp}, r_X4_goOn h x0 x1 = some o → Le h o.2) (mr_X4_branch : ∀ {h : Hp} {x0 : Nat} {x1 : Int32} {x2 : Int32} {o : Int32 × Hp}, r_X4_branch h x0 x1 x2 = some o → Le h o.2) (mr_X4_tree : ∀ {h : Hp} {x0 : Nat} {x1 : Int32} {o : Int32 × Hp}, r_X4_tree h x0 x1 = some o → Le h o.2) (hk_151 : ∀ (h : Hp) (x0 : Nat) (x1 : Int32) (x2 : Nat) (x3 : Int32) (x4 : Int32) (x5 : Int32) (H : Heap) (locs : List Loc), hK h x0 = 4 → hK h x2 = 17 → Km h0 h → Wx X h H → va_S (aA (eB X)) s.heap H locs → ∀ (ls : Array Slot), lv_has ls 8 [(0, .ref x0), (1, .int x1), (2, .ref x2), (3, .int x3), (4, .int x4), (5, .int x5)] → k_151 h x0 x1 x2 x3 x4 x5 = some o → W p l e (rm (d + 1 + 6) ((d + 1) * 27 + 161)) s m args below meth c H locs 0 0 (MQ below (QI X h0 o.1 o.2) args s 0 0 (aA (eB X))) (F0 m 151 ls [])) {h : Hp} {x0 : Nat} {x1 : Int32} {x2 : Nat} {x3 : Int32} {x4 : Int32} {x5 : Int32} {H : Heap} {locs : List Loc} (k_x0 : hK h x0 = 4) (k_x2 : hK h x2 = 17) (hkm : Km h0 h) (hW : Wx X h H) (hZ : va_S (aA (eB X)) s.heap H locs) (ls : Array Slot) (hl : lv_has ls 8 [(0, .ref x0), (1, .int x1), (2, .ref x2), (3, .int x3), (4, .int x4), (5, .int x5)]) (hE : sX4_tree_233 F r_X4_attempt r_X4_reply r_X4_goOn r_X4_branch r_X4_tree k_151 h x0 x1 x2 x3 x4 x5 = some o) : W p l e (rm (d + 1 + 6) ((d + 1) * 27 + 161)) s m args below meth c H locs 0 0 (MQ below (QI X h0 o.1 o.2) args s 0 0 (aA (eB X))) (F0 m 233 ls []) := by
  refine lv_aload_n C.1 C.2.1 dX4_tree_233 rfl (lv_at hl 0 rfl) ?_
  refine lv_iload_n C.1 C.2.1 dX4_tree_234 rfl (lv_at hl 1 rfl) ?_
  refine lv_iload C.1 C.2.1 dX4_tree_235 (lv_at hl 5 rfl) ?_
  obtain ⟨o_1, eo_1, hE⟩ := cl_e hE
  refine x_kI (o := o_1) (z_runV (As := [.int x1, .int x5]) (rest := []) C (hr_X4_branch k_x0 eo_1) cw_X4_95 hW hZ k_x0 (by decide) rfl rfl rfl hl.1 (Nat.le_of_ble_eq_true rfl) rfl dX4_tree_237 ⟨by dsimp only [rm, rmA]; omega, by dsimp only [rm, rmA]; omega⟩ ⟨Nat.le_refl _, Nat.le_refl _⟩) hZ (fun _ _ hW km hZ => ?_)
  replace hkm := hkm.tr km
  replace k_x0 := km.at k_x0 (by decide)
  replace k_x2 := km.at k_x2 (by decide)
  refine lv_istore (lv' := [(7, .int o_1.1), (0, .ref x0), (1, .int x1), (2, .ref x2), (3, .int x3), (4, .int x4), (5, .int x5)]) C.1 C.2.1 dX4_tree_240 hl (by decide) rfl (fun ls hl => ?_)
  refine lv_iload_n C.1 C.2.1 dX4_tree_242 rfl (lv_at hl 2 rfl) ?_
  refine lv_if_ne (tgt := 255) C.1 C.2.1 dX4_tree_243 (by decide) (fun c_2 => ?_) (fun c_2 => ?_)
  · have hE := br_n hE c_2
    exact bX4_tree_255 C hr_X4_attempt hr_X4_reply hr_X4_goOn hr_X4_branch hr_X4_tree mr_X4_attempt mr_X4_reply mr_X4_goOn mr_X4_branch mr_X4_tree hk_151 k_x0 k_x2 hkm hW hZ _ (lv_sub hl [1, 2, 3, 4, 5, 6, 0] rfl) hE
  · have hE := br_p hE c_2
    refine lv_aload_n C.1 C.2.1 dX4_tree_246 rfl (lv_at hl 1 rfl) ?_
    obtain ⟨r_3, er_3, hE⟩ := cl_e hE
    refine gf_X4_29 C hW k_x0 er_3 dX4_tree_247 (fun k_r_3 => ?_)
    refine lv_iload C.1 C.2.1 dX4_tree_250 (lv_at hl 6 rfl) ?_
    refine lv_iload C.1 C.2.1 dX4_tree_252 (lv_at hl 0 rfl) ?_
    obtain ⟨g_4, hE⟩ := gd_e hE
    obtain ⟨h_5, eh_5, hE⟩ := nm_e2 hE
    refine y_iast C hW hZ k_r_3 g_4 eh_5 dX4_tree_254 (fun _ _ hW km hZ => ?_)
    replace hkm := hkm.tr km
    replace k_x0 := km.at k_x0 (by decide)
    replace k_x2 := km.at k_x2 (by decide)
    exact bX4_tree_255 C hr_X4_attempt hr_X4_reply hr_X4_goOn hr_X4_branch hr_X4_tree mr_X4_attempt mr_X4_reply mr_X4_goOn mr_X4_branch mr_X4_tree hk_151 k_x0 k_x2 hkm hW hZ _ (lv_sub hl [1, 2, 3, 4, 5, 6, 0] rfl) hE
set_option maxRecDepth 20000 in
theorem bX4_tree_216 {p : Program} {l : Launch} {e : Env} {s : State} {m : MethodId} {args : Array Value} {below : List Frame} {meth : Method} {c : Code} {X : Ec} {h0 : Hp} {o : Int32 × Hp} {d : Nat} {r_X4_attempt : Hp → Nat → Int32 → Int32 → Option (Int32 × Hp)} {r_X4_reply : Hp → Nat → Int32 → Option (Int32 × Hp)} {r_X4_goOn : Hp → Nat → Int32 → Option (Int32 × Hp)} {r_X4_branch : Hp → Nat → Int32 → Int32 → Option (Int32 × Hp)} {r_X4_tree : Hp → Nat → Int32 → Option (Int32 × Hp)} {k_151 : Hp → Nat → Int32 → Nat → Int32 → Int32 → Int32 → Option (Int32 × Hp)} {F : Nat} (C : Cx X p s m args meth c RX4 cX4_tree 8 (some .int) "tree") (hr_X4_attempt : ∀ {h : Hp} {x0 : Nat} {x1 : Int32} {x2 : Int32} {o : Int32 × Hp}, hK h x0 = 4 → r_X4_attempt h x0 x1 x2 = some o → MetI l yX4_attempt cX4_attempt 6 (some .int)  (d + 6) (d * 27 + 161) X [.ref x0, .int x1, .int x2] h o) (hr_X4_reply : ∀ {h : Hp} {x0 : Nat} {x1 : Int32} {o : Int32 × Hp}, hK h x0 = 4 → r_X4_reply h x0 x1 = some o → MetI l yX4_reply cX4_reply 3 (some .int)  (d + 6) (d * 27 + 161) X [.ref x0, .int x1] h o) (hr_X4_goOn : ∀ {h : Hp} {x0 : Nat} {x1 : Int32} {o : Int32 × Hp}, hK h x0 = 4 → r_X4_goOn h x0 x1 = some o → MetI l yX4_goOn cX4_goOn 3 (some .int)  (d + 6) (d * 27 + 161) X [.ref x0, .int x1] h o) (hr_X4_branch : ∀ {h : Hp} {x0 : Nat} {x1 : Int32} {x2 : Int32} {o : Int32 × Hp}, hK h x0 = 4 → r_X4_branch h x0 x1 x2 = some o → MetI l yX4_branch cX4_branch 3 (some .int)  (d + 6) (d * 27 + 161) X [.ref x0, .int x1, .int x2] h o) (hr_X4_tree : ∀ {h : Hp} {x0 : Nat} {x1 : Int32} {o : Int32 × Hp}, hK h x0 = 4 → r_X4_tree h x0 x1 = some o → MetI l yX4_tree cX4_tree 8 (some .int)  (d + 6) (d * 27 + 161) X [.ref x0, .int x1] h o) (mr_X4_attempt : ∀ {h : Hp} {x0 : Nat} {x1 : Int32} {x2 : Int32} {o : Int32 × Hp}, r_X4_attempt h x0 x1 x2 = some o → Le h o.2) (mr_X4_reply : ∀ {h : Hp} {x0 : Nat} {x1 : Int32} {o : Int32 × Hp}, r_X4_reply h x0 x1 = some o → Le h o.2) (mr_X4_goOn : ∀ {h : Hp} {x0 : Nat} {x1 : Int32} {o : Int32 × Hp}, r_X4_goOn h x0 x1 = some o → Le h o.2) (mr_X4_branch : ∀ {h : Hp} {x0 : Nat} {x1 : Int32} {x2 : Int32} {o : Int32 × Hp}, r_X4_branch h x0 x1 x2 = some o → Le h o.2) (mr_X4_tree : ∀ {h : Hp} {x0 : Nat} {x1 : Int32} {o : Int32 × Hp}, r_X4_tree h x0 x1 = some o → Le h o.2) (hk_151 : ∀ (h : Hp) (x0 : Nat) (x1 : Int32) (x2 : Nat) (x3 : Int32) (x4 : Int32) (x5 : Int32) (H : Heap) (locs : List Loc), hK h x0 = 4 → hK h x2 = 17 → Km h0 h → Wx X h H → va_S (aA (eB X)) s.heap H locs → ∀ (ls : Array Slot), lv_has ls 8 [(0, .ref x0), (1, .int x1), (2, .ref x2), (3, .int x3), (4, .int x4), (5, .int x5)] → k_151 h x0 x1 x2 x3 x4 x5 = some o → W p l e (rm (d + 1 + 6) ((d + 1) * 27 + 161)) s m args below meth c H locs 0 0 (MQ below (QI X h0 o.1 o.2) args s 0 0 (aA (eB X))) (F0 m 151 ls [])) {h : Hp} {x0 : Nat} {x1 : Int32} {x2 : Nat} {x3 : Int32} {x4 : Int32} {x5 : Int32} {x6 : Nat} {H : Heap} {locs : List Loc} (k_x0 : hK h x0 = 4) (k_x2 : hK h x2 = 17) (k_x6 : hK h x6 = 3) (hkm : Km h0 h) (hW : Wx X h H) (hZ : va_S (aA (eB X)) s.heap H locs) (ls : Array Slot) (hl : lv_has ls 8 [(0, .ref x0), (1, .int x1), (2, .ref x2), (3, .int x3), (4, .int x4), (5, .int x5), (6, .ref x6)]) (hE : sX4_tree_216 F r_X4_attempt r_X4_reply r_X4_goOn r_X4_branch r_X4_tree k_151 h x0 x1 x2 x3 x4 x5 x6 = some o) : W p l e (rm (d + 1 + 6) ((d + 1) * 27 + 161)) s m args below meth c H locs 0 0 (MQ below (QI X h0 o.1 o.2) args s 0 0 (aA (eB X))) (F0 m 216 ls []) := by
  refine lv_aload_n C.1 C.2.1 dX4_tree_216 rfl (lv_at hl 0 rfl) ?_
  obtain ⟨r_1, er_1, hE⟩ := cl_e hE
  refine gf_X4_22 C hW k_x0 er_1 dX4_tree_217 (fun k_r_1 => ?_)
  refine lv_iload_n C.1 C.2.1 dX4_tree_220 rfl (lv_at hl 1 rfl) ?_
  refine lv_iconst (v := (1 : Int32)) C.1 C.2.1 dX4_tree_221 (by decide) ?_
  refine lv_iadd C.1 C.2.1 dX4_tree_222 ?_
  refine lv_aload_n C.1 C.2.1 dX4_tree_223 rfl (lv_at hl 0 rfl) ?_
  obtain ⟨r_2, er_2, hE⟩ := cl_e hE
  refine gf_X4_45 C hW k_x0 er_2 dX4_tree_224 (fun k_r_2 => ?_)
  refine lv_aload C.1 C.2.1 dX4_tree_227 (lv_at hl 6 rfl) ?_
  obtain ⟨o_3, eo_3, hE⟩ := cl_e hE
  refine x_kI (o := o_3) (z_runV (As := [.ref x6]) (rest := [.int (x1 + (1 : Int32)), .ref r_1]) C (ct_X5_endOf l X F k_r_2 k_x6 eo_3) cw_X4_86 hW hZ k_r_2 (by decide) rfl rfl rfl hl.1 (Nat.le_of_ble_eq_true rfl) rfl dX4_tree_229 ⟨by dsimp only [rm, rmA]; omega, by dsimp only [rm, rmA]; omega⟩ ⟨Nat.le_refl _, Nat.le_refl _⟩) hZ (fun _ _ hW km hZ => ?_)
  replace hkm := hkm.tr km
  replace k_x0 := km.at k_x0 (by decide)
  replace k_x2 := km.at k_x2 (by decide)
  replace k_x6 := km.at k_x6 (by decide)
  replace k_r_1 := km.at k_r_1 (by decide)
  obtain ⟨g_4, hE⟩ := gd_e hE
  obtain ⟨h_5, eh_5, hE⟩ := nm_e2 hE
  refine y_iast C hW hZ k_r_1 g_4 eh_5 dX4_tree_232 (fun _ _ hW km hZ => ?_)
  replace hkm := hkm.tr km
  replace k_x0 := km.at k_x0 (by decide)
  replace k_x2 := km.at k_x2 (by decide)
  replace k_x6 := km.at k_x6 (by decide)
  exact bX4_tree_233 C hr_X4_attempt hr_X4_reply hr_X4_goOn hr_X4_branch hr_X4_tree mr_X4_attempt mr_X4_reply mr_X4_goOn mr_X4_branch mr_X4_tree hk_151 k_x0 k_x2 hkm hW hZ _ (lv_sub hl [0, 1, 2, 3, 4, 5] rfl) hE
set_option maxRecDepth 20000 in
theorem bX4_tree_151 {p : Program} {l : Launch} {e : Env} {s : State} {m : MethodId} {args : Array Value} {below : List Frame} {meth : Method} {c : Code} {X : Ec} {h0 : Hp} {o : Int32 × Hp} {d : Nat} {r_X4_attempt : Hp → Nat → Int32 → Int32 → Option (Int32 × Hp)} {r_X4_reply : Hp → Nat → Int32 → Option (Int32 × Hp)} {r_X4_goOn : Hp → Nat → Int32 → Option (Int32 × Hp)} {r_X4_branch : Hp → Nat → Int32 → Int32 → Option (Int32 × Hp)} {r_X4_tree : Hp → Nat → Int32 → Option (Int32 × Hp)} {F : Nat} (C : Cx X p s m args meth c RX4 cX4_tree 8 (some .int) "tree") (hr_X4_attempt : ∀ {h : Hp} {x0 : Nat} {x1 : Int32} {x2 : Int32} {o : Int32 × Hp}, hK h x0 = 4 → r_X4_attempt h x0 x1 x2 = some o → MetI l yX4_attempt cX4_attempt 6 (some .int)  (d + 6) (d * 27 + 161) X [.ref x0, .int x1, .int x2] h o) (hr_X4_reply : ∀ {h : Hp} {x0 : Nat} {x1 : Int32} {o : Int32 × Hp}, hK h x0 = 4 → r_X4_reply h x0 x1 = some o → MetI l yX4_reply cX4_reply 3 (some .int)  (d + 6) (d * 27 + 161) X [.ref x0, .int x1] h o) (hr_X4_goOn : ∀ {h : Hp} {x0 : Nat} {x1 : Int32} {o : Int32 × Hp}, hK h x0 = 4 → r_X4_goOn h x0 x1 = some o → MetI l yX4_goOn cX4_goOn 3 (some .int)  (d + 6) (d * 27 + 161) X [.ref x0, .int x1] h o) (hr_X4_branch : ∀ {h : Hp} {x0 : Nat} {x1 : Int32} {x2 : Int32} {o : Int32 × Hp}, hK h x0 = 4 → r_X4_branch h x0 x1 x2 = some o → MetI l yX4_branch cX4_branch 3 (some .int)  (d + 6) (d * 27 + 161) X [.ref x0, .int x1, .int x2] h o) (hr_X4_tree : ∀ {h : Hp} {x0 : Nat} {x1 : Int32} {o : Int32 × Hp}, hK h x0 = 4 → r_X4_tree h x0 x1 = some o → MetI l yX4_tree cX4_tree 8 (some .int)  (d + 6) (d * 27 + 161) X [.ref x0, .int x1] h o) (mr_X4_attempt : ∀ {h : Hp} {x0 : Nat} {x1 : Int32} {x2 : Int32} {o : Int32 × Hp}, r_X4_attempt h x0 x1 x2 = some o → Le h o.2) (mr_X4_reply : ∀ {h : Hp} {x0 : Nat} {x1 : Int32} {o : Int32 × Hp}, r_X4_reply h x0 x1 = some o → Le h o.2) (mr_X4_goOn : ∀ {h : Hp} {x0 : Nat} {x1 : Int32} {o : Int32 × Hp}, r_X4_goOn h x0 x1 = some o → Le h o.2) (mr_X4_branch : ∀ {h : Hp} {x0 : Nat} {x1 : Int32} {x2 : Int32} {o : Int32 × Hp}, r_X4_branch h x0 x1 x2 = some o → Le h o.2) (mr_X4_tree : ∀ {h : Hp} {x0 : Nat} {x1 : Int32} {o : Int32 × Hp}, r_X4_tree h x0 x1 = some o → Le h o.2) : ∀ (f : Nat) {h : Hp} {x0 : Nat} {x1 : Int32} {x2 : Nat} {x3 : Int32} {x4 : Int32} {x5 : Int32} {H : Heap} {locs : List Loc} (k_x0 : hK h x0 = 4) (k_x2 : hK h x2 = 17), Km h0 h → Wx X h H → va_S (aA (eB X)) s.heap H locs → ∀ (ls : Array Slot), lv_has ls 8 [(0, .ref x0), (1, .int x1), (2, .ref x2), (3, .int x3), (4, .int x4), (5, .int x5)] → sX4_tree_151 F r_X4_attempt r_X4_reply r_X4_goOn r_X4_branch r_X4_tree f h x0 x1 x2 x3 x4 x5 = some o → W p l e (rm (d + 1 + 6) ((d + 1) * 27 + 161)) s m args below meth c H locs 0 0 (MQ below (QI X h0 o.1 o.2) args s 0 0 (aA (eB X))) (F0 m 151 ls []) := by
  intro f
  induction f with
  | zero =>
    intro h x0 x1 x2 x3 x4 x5 H locs k_x0 k_x2 hkm hW hZ ls hl hE
    rw [sX4_tree_151] at hE
    cases hE
  | succ f ih =>
    intro h x0 x1 x2 x3 x4 x5 H locs k_x0 k_x2 hkm hW hZ ls hl hE
    rw [sX4_tree_151] at hE
    have hk_151 : ∀ (h : Hp) (x0 : Nat) (x1 : Int32) (x2 : Nat) (x3 : Int32) (x4 : Int32) (x5 : Int32) (H : Heap) (locs : List Loc), hK h x0 = 4 → hK h x2 = 17 → Km h0 h → Wx X h H → va_S (aA (eB X)) s.heap H locs → ∀ (ls : Array Slot), lv_has ls 8 [(0, .ref x0), (1, .int x1), (2, .ref x2), (3, .int x3), (4, .int x4), (5, .int x5)] → sX4_tree_151 F r_X4_attempt r_X4_reply r_X4_goOn r_X4_branch r_X4_tree f h x0 x1 x2 x3 x4 x5 = some o → W p l e (rm (d + 1 + 6) ((d + 1) * 27 + 161)) s m args below meth c H locs 0 0 (MQ below (QI X h0 o.1 o.2) args s 0 0 (aA (eB X))) (F0 m 151 ls []) := fun h x0 x1 x2 x3 x4 x5 H locs k_x0 k_x2 a b c ls hl hE => ih k_x0 k_x2 a b c ls hl hE
    refine lv_iload C.1 C.2.1 dX4_tree_151 (lv_at hl 5 rfl) ?_
    refine lv_iload_n C.1 C.2.1 dX4_tree_153 rfl (lv_at hl 3 rfl) ?_
    refine lv_icmp_ge (tgt := 268) C.1 C.2.1 dX4_tree_154 (by decide) (fun c_1 => ?_) (fun c_1 => ?_)
    · have hE := br_p hE c_1
      exact bX4_tree_268 C hr_X4_attempt hr_X4_reply hr_X4_goOn hr_X4_branch hr_X4_tree mr_X4_attempt mr_X4_reply mr_X4_goOn mr_X4_branch mr_X4_tree hkm hW hZ _ (lv_sub hl [4] rfl) hE
    · have hE := br_n hE c_1
      refine lv_aload_n C.1 C.2.1 dX4_tree_157 rfl (lv_at hl 0 rfl) ?_
      refine gf_X4_59 C hW k_x0 dX4_tree_158 ?_
      refine lv_if_ne (tgt := 268) C.1 C.2.1 dX4_tree_161 (by decide) (fun c_2 => ?_) (fun c_2 => ?_)
      · have hE := br_n hE c_2
        exact bX4_tree_268 C hr_X4_attempt hr_X4_reply hr_X4_goOn hr_X4_branch hr_X4_tree mr_X4_attempt mr_X4_reply mr_X4_goOn mr_X4_branch mr_X4_tree hkm hW hZ _ (lv_sub hl [4] rfl) hE
      · have hE := br_p hE c_2
        refine lv_aload_n C.1 C.2.1 dX4_tree_164 rfl (lv_at hl 0 rfl) ?_
        obtain ⟨r_3, er_3, hE⟩ := cl_e hE
        refine gf_X4_13 C hW k_x0 er_3 dX4_tree_165 (fun k_r_3 => ?_)
        refine lv_iload_n C.1 C.2.1 dX4_tree_168 rfl (lv_at hl 1 rfl) ?_
        refine lv_iconst (v := (1 : Int32)) C.1 C.2.1 dX4_tree_169 (by decide) ?_
        refine lv_iadd C.1 C.2.1 dX4_tree_170 ?_
        obtain ⟨g_4, hE⟩ := gd_e hE
        obtain ⟨r_5, er_5, hE⟩ := cl_e hE
        refine y_aald (t0 := 4) C hW k_r_3 (by decide) (by decide) rfl rfl rfl (fun _ => rfl) g_4 er_5 dX4_tree_171 (fun k_r_5 => ?_)
        refine lv_astore (lv' := [(6, .ref r_5), (0, .ref x0), (1, .int x1), (2, .ref x2), (3, .int x3), (4, .int x4), (5, .int x5)]) C.1 C.2.1 dX4_tree_172 hl (by decide) rfl (fun ls hl => ?_)
        refine lv_aload C.1 C.2.1 dX4_tree_174 (lv_at hl 0 rfl) ?_
        refine lv_aload_n C.1 C.2.1 dX4_tree_176 rfl (lv_at hl 1 rfl) ?_
        obtain ⟨r_6, er_6, hE⟩ := cl_e hE
        refine gf_X4_13 C hW k_x0 er_6 dX4_tree_177 (fun k_r_6 => ?_)
        refine lv_iload_n C.1 C.2.1 dX4_tree_180 rfl (lv_at hl 2 rfl) ?_
        obtain ⟨g_7, hE⟩ := gd_e hE
        obtain ⟨r_8, er_8, hE⟩ := cl_e hE
        refine y_aald (t0 := 4) C hW k_r_6 (by decide) (by decide) rfl rfl rfl (fun _ => rfl) g_7 er_8 dX4_tree_181 (fun k_r_8 => ?_)
        obtain ⟨o_9, eo_9, hE⟩ := cl_e hE
        refine x_kV (o := o_9) (z_runV (As := [.ref r_8]) (rest := []) C (ct_X3_copyFrom l X F k_r_5 k_r_8 eo_9) cw_X4_69 hW hZ k_r_5 (by decide) rfl rfl rfl hl.1 (Nat.le_of_ble_eq_true rfl) rfl dX4_tree_182 ⟨by dsimp only [rm, rmA]; omega, by dsimp only [rm, rmA]; omega⟩ ⟨Nat.le_refl _, Nat.le_refl _⟩) hZ (fun _ _ hW km hZ => ?_)
        replace hkm := hkm.tr km
        replace k_r_5 := km.at k_r_5 (by decide)
        replace k_x0 := km.at k_x0 (by decide)
        replace k_x2 := km.at k_x2 (by decide)
        refine lv_aload_n C.1 C.2.1 dX4_tree_185 rfl (lv_at hl 1 rfl) ?_
        obtain ⟨r_10, er_10, hE⟩ := cl_e hE
        refine gf_X4_45 C hW k_x0 er_10 dX4_tree_186 (fun k_r_10 => ?_)
        refine lv_aload C.1 C.2.1 dX4_tree_189 (lv_at hl 0 rfl) ?_
        refine lv_aload_n C.1 C.2.1 dX4_tree_191 rfl (lv_at hl 3 rfl) ?_
        refine lv_iload C.1 C.2.1 dX4_tree_192 (lv_at hl 6 rfl) ?_
        obtain ⟨g_11, hE⟩ := gd_e hE
        refine y_iald C hW k_x2 g_11 dX4_tree_194 ?_
        obtain ⟨o_12, eo_12, hE⟩ := cl_e hE
        refine x_kV (o := o_12) (z_runV (As := [.ref r_5, .int (hI o_9 x2 x5.toNatClampNeg)]) (rest := []) C (ct_X5_make l X F k_r_10 k_r_5 eo_12) cw_X4_91 hW hZ k_r_10 (by decide) rfl rfl rfl hl.1 (Nat.le_of_ble_eq_true rfl) rfl dX4_tree_195 ⟨by dsimp only [rm, rmA]; omega, by dsimp only [rm, rmA]; omega⟩ ⟨Nat.le_refl _, Nat.le_refl _⟩) hZ (fun _ _ hW km hZ => ?_)
        replace hkm := hkm.tr km
        replace k_r_5 := km.at k_r_5 (by decide)
        replace k_x0 := km.at k_x0 (by decide)
        replace k_x2 := km.at k_x2 (by decide)
        refine lv_iload_n C.1 C.2.1 dX4_tree_198 rfl (lv_at hl 2 rfl) ?_
        refine lv_iconst (v := (1 : Int32)) C.1 C.2.1 dX4_tree_199 (by decide) ?_
        refine lv_iadd C.1 C.2.1 dX4_tree_200 ?_
        refine lv_aload_n C.1 C.2.1 dX4_tree_201 rfl (lv_at hl 1 rfl) ?_
        refine gf_X4_56 C hW k_x0 dX4_tree_202 ?_
        refine lv_icmp_eq (tgt := 216) C.1 C.2.1 dX4_tree_205 (by decide) (fun c_13 => ?_) (fun c_13 => ?_)
        · have hE := br_p hE c_13
          exact bX4_tree_216 C hr_X4_attempt hr_X4_reply hr_X4_goOn hr_X4_branch hr_X4_tree mr_X4_attempt mr_X4_reply mr_X4_goOn mr_X4_branch mr_X4_tree hk_151 k_x0 k_x2 k_r_5 hkm hW hZ _ (lv_sub hl [1, 2, 3, 4, 5, 6, 0] rfl) hE
        · have hE := br_n hE c_13
          refine lv_aload_n C.1 C.2.1 dX4_tree_208 rfl (lv_at hl 1 rfl) ?_
          refine gf_X4_50 C hW k_x0 dX4_tree_209 ?_
          refine lv_iconst (v := (3 : Int32)) C.1 C.2.1 dX4_tree_212 (by decide) ?_
          refine lv_icmp_ne (tgt := 233) C.1 C.2.1 dX4_tree_213 (by decide) (fun c_14 => ?_) (fun c_14 => ?_)
          · have hE := br_n hE c_14
            exact bX4_tree_233 C hr_X4_attempt hr_X4_reply hr_X4_goOn hr_X4_branch hr_X4_tree mr_X4_attempt mr_X4_reply mr_X4_goOn mr_X4_branch mr_X4_tree hk_151 k_x0 k_x2 hkm hW hZ _ (lv_sub hl [1, 2, 3, 4, 5, 6] rfl) hE
          · have hE := br_p hE c_14
            exact bX4_tree_216 C hr_X4_attempt hr_X4_reply hr_X4_goOn hr_X4_branch hr_X4_tree mr_X4_attempt mr_X4_reply mr_X4_goOn mr_X4_branch mr_X4_tree hk_151 k_x0 k_x2 k_r_5 hkm hW hZ _ (lv_sub hl [1, 2, 3, 4, 5, 6, 0] rfl) hE
set_option maxRecDepth 20000 in
theorem bX4_tree_145 {p : Program} {l : Launch} {e : Env} {s : State} {m : MethodId} {args : Array Value} {below : List Frame} {meth : Method} {c : Code} {X : Ec} {h0 : Hp} {o : Int32 × Hp} {d : Nat} {r_X4_attempt : Hp → Nat → Int32 → Int32 → Option (Int32 × Hp)} {r_X4_reply : Hp → Nat → Int32 → Option (Int32 × Hp)} {r_X4_goOn : Hp → Nat → Int32 → Option (Int32 × Hp)} {r_X4_branch : Hp → Nat → Int32 → Int32 → Option (Int32 × Hp)} {r_X4_tree : Hp → Nat → Int32 → Option (Int32 × Hp)} {F : Nat} (C : Cx X p s m args meth c RX4 cX4_tree 8 (some .int) "tree") (hr_X4_attempt : ∀ {h : Hp} {x0 : Nat} {x1 : Int32} {x2 : Int32} {o : Int32 × Hp}, hK h x0 = 4 → r_X4_attempt h x0 x1 x2 = some o → MetI l yX4_attempt cX4_attempt 6 (some .int)  (d + 6) (d * 27 + 161) X [.ref x0, .int x1, .int x2] h o) (hr_X4_reply : ∀ {h : Hp} {x0 : Nat} {x1 : Int32} {o : Int32 × Hp}, hK h x0 = 4 → r_X4_reply h x0 x1 = some o → MetI l yX4_reply cX4_reply 3 (some .int)  (d + 6) (d * 27 + 161) X [.ref x0, .int x1] h o) (hr_X4_goOn : ∀ {h : Hp} {x0 : Nat} {x1 : Int32} {o : Int32 × Hp}, hK h x0 = 4 → r_X4_goOn h x0 x1 = some o → MetI l yX4_goOn cX4_goOn 3 (some .int)  (d + 6) (d * 27 + 161) X [.ref x0, .int x1] h o) (hr_X4_branch : ∀ {h : Hp} {x0 : Nat} {x1 : Int32} {x2 : Int32} {o : Int32 × Hp}, hK h x0 = 4 → r_X4_branch h x0 x1 x2 = some o → MetI l yX4_branch cX4_branch 3 (some .int)  (d + 6) (d * 27 + 161) X [.ref x0, .int x1, .int x2] h o) (hr_X4_tree : ∀ {h : Hp} {x0 : Nat} {x1 : Int32} {o : Int32 × Hp}, hK h x0 = 4 → r_X4_tree h x0 x1 = some o → MetI l yX4_tree cX4_tree 8 (some .int)  (d + 6) (d * 27 + 161) X [.ref x0, .int x1] h o) (mr_X4_attempt : ∀ {h : Hp} {x0 : Nat} {x1 : Int32} {x2 : Int32} {o : Int32 × Hp}, r_X4_attempt h x0 x1 x2 = some o → Le h o.2) (mr_X4_reply : ∀ {h : Hp} {x0 : Nat} {x1 : Int32} {o : Int32 × Hp}, r_X4_reply h x0 x1 = some o → Le h o.2) (mr_X4_goOn : ∀ {h : Hp} {x0 : Nat} {x1 : Int32} {o : Int32 × Hp}, r_X4_goOn h x0 x1 = some o → Le h o.2) (mr_X4_branch : ∀ {h : Hp} {x0 : Nat} {x1 : Int32} {x2 : Int32} {o : Int32 × Hp}, r_X4_branch h x0 x1 x2 = some o → Le h o.2) (mr_X4_tree : ∀ {h : Hp} {x0 : Nat} {x1 : Int32} {o : Int32 × Hp}, r_X4_tree h x0 x1 = some o → Le h o.2) {h : Hp} {x0 : Nat} {x1 : Int32} {x2 : Nat} {x3 : Int32} {H : Heap} {locs : List Loc} (k_x0 : hK h x0 = 4) (k_x2 : hK h x2 = 17) (hkm : Km h0 h) (hW : Wx X h H) (hZ : va_S (aA (eB X)) s.heap H locs) (ls : Array Slot) (hl : lv_has ls 8 [(0, .ref x0), (1, .int x1), (2, .ref x2), (3, .int x3)]) (hE : sX4_tree_145 F r_X4_attempt r_X4_reply r_X4_goOn r_X4_branch r_X4_tree h x0 x1 x2 x3 = some o) : W p l e (rm (d + 1 + 6) ((d + 1) * 27 + 161)) s m args below meth c H locs 0 0 (MQ below (QI X h0 o.1 o.2) args s 0 0 (aA (eB X))) (F0 m 145 ls []) := by
  refine lv_iconst (v := (0 : Int32)) C.1 C.2.1 dX4_tree_145 (by decide) ?_
  refine lv_istore (lv' := [(4, .int (0 : Int32)), (0, .ref x0), (1, .int x1), (2, .ref x2), (3, .int x3)]) C.1 C.2.1 dX4_tree_146 hl (by decide) rfl (fun ls hl => ?_)
  refine lv_iconst (v := (0 : Int32)) C.1 C.2.1 dX4_tree_148 (by decide) ?_
  refine lv_istore (lv' := [(5, .int (0 : Int32)), (4, .int (0 : Int32)), (0, .ref x0), (1, .int x1), (2, .ref x2), (3, .int x3)]) C.1 C.2.1 dX4_tree_149 hl (by decide) rfl (fun ls hl => ?_)
  exact bX4_tree_151 C hr_X4_attempt hr_X4_reply hr_X4_goOn hr_X4_branch hr_X4_tree mr_X4_attempt mr_X4_reply mr_X4_goOn mr_X4_branch mr_X4_tree F k_x0 k_x2 hkm hW hZ _ (lv_sub hl [2, 3, 4, 5, 1, 0] rfl) hE
set_option maxRecDepth 20000 in
theorem bX4_tree_122 {p : Program} {l : Launch} {e : Env} {s : State} {m : MethodId} {args : Array Value} {below : List Frame} {meth : Method} {c : Code} {X : Ec} {h0 : Hp} {o : Int32 × Hp} {d : Nat} {r_X4_attempt : Hp → Nat → Int32 → Int32 → Option (Int32 × Hp)} {r_X4_reply : Hp → Nat → Int32 → Option (Int32 × Hp)} {r_X4_goOn : Hp → Nat → Int32 → Option (Int32 × Hp)} {r_X4_branch : Hp → Nat → Int32 → Int32 → Option (Int32 × Hp)} {r_X4_tree : Hp → Nat → Int32 → Option (Int32 × Hp)} {F : Nat} (C : Cx X p s m args meth c RX4 cX4_tree 8 (some .int) "tree") (hr_X4_attempt : ∀ {h : Hp} {x0 : Nat} {x1 : Int32} {x2 : Int32} {o : Int32 × Hp}, hK h x0 = 4 → r_X4_attempt h x0 x1 x2 = some o → MetI l yX4_attempt cX4_attempt 6 (some .int)  (d + 6) (d * 27 + 161) X [.ref x0, .int x1, .int x2] h o) (hr_X4_reply : ∀ {h : Hp} {x0 : Nat} {x1 : Int32} {o : Int32 × Hp}, hK h x0 = 4 → r_X4_reply h x0 x1 = some o → MetI l yX4_reply cX4_reply 3 (some .int)  (d + 6) (d * 27 + 161) X [.ref x0, .int x1] h o) (hr_X4_goOn : ∀ {h : Hp} {x0 : Nat} {x1 : Int32} {o : Int32 × Hp}, hK h x0 = 4 → r_X4_goOn h x0 x1 = some o → MetI l yX4_goOn cX4_goOn 3 (some .int)  (d + 6) (d * 27 + 161) X [.ref x0, .int x1] h o) (hr_X4_branch : ∀ {h : Hp} {x0 : Nat} {x1 : Int32} {x2 : Int32} {o : Int32 × Hp}, hK h x0 = 4 → r_X4_branch h x0 x1 x2 = some o → MetI l yX4_branch cX4_branch 3 (some .int)  (d + 6) (d * 27 + 161) X [.ref x0, .int x1, .int x2] h o) (hr_X4_tree : ∀ {h : Hp} {x0 : Nat} {x1 : Int32} {o : Int32 × Hp}, hK h x0 = 4 → r_X4_tree h x0 x1 = some o → MetI l yX4_tree cX4_tree 8 (some .int)  (d + 6) (d * 27 + 161) X [.ref x0, .int x1] h o) (mr_X4_attempt : ∀ {h : Hp} {x0 : Nat} {x1 : Int32} {x2 : Int32} {o : Int32 × Hp}, r_X4_attempt h x0 x1 x2 = some o → Le h o.2) (mr_X4_reply : ∀ {h : Hp} {x0 : Nat} {x1 : Int32} {o : Int32 × Hp}, r_X4_reply h x0 x1 = some o → Le h o.2) (mr_X4_goOn : ∀ {h : Hp} {x0 : Nat} {x1 : Int32} {o : Int32 × Hp}, r_X4_goOn h x0 x1 = some o → Le h o.2) (mr_X4_branch : ∀ {h : Hp} {x0 : Nat} {x1 : Int32} {x2 : Int32} {o : Int32 × Hp}, r_X4_branch h x0 x1 x2 = some o → Le h o.2) (mr_X4_tree : ∀ {h : Hp} {x0 : Nat} {x1 : Int32} {o : Int32 × Hp}, r_X4_tree h x0 x1 = some o → Le h o.2) {h : Hp} {x0 : Nat} {x1 : Int32} {x2 : Nat} {x3 : Int32} {t0 : Int32} {t1 : Nat} {H : Heap} {locs : List Loc} (k_x0 : hK h x0 = 4) (k_x2 : hK h x2 = 17) (k_t1 : hK h t1 = 4) (hkm : Km h0 h) (hW : Wx X h H) (hZ : va_S (aA (eB X)) s.heap H locs) (ls : Array Slot) (hl : lv_has ls 8 [(0, .ref x0), (1, .int x1), (2, .ref x2), (3, .int x3)]) (hE : sX4_tree_122 F r_X4_attempt r_X4_reply r_X4_goOn r_X4_branch r_X4_tree h x0 x1 x2 x3 t0 t1 = some o) : W p l e (rm (d + 1 + 6) ((d + 1) * 27 + 161)) s m args below meth c H locs 0 0 (MQ below (QI X h0 o.1 o.2) args s 0 0 (aA (eB X))) (F0 m 122 ls [.int t0, .ref t1]) := by
  obtain ⟨g_1, hE⟩ := gd_e hE
  obtain ⟨h_2, eh_2, hE⟩ := nm_e2 hE
  refine pf_X4_59 C hW hZ k_t1 (narB g_1) eh_2 dX4_tree_122 (fun _ _ hW km hZ => ?_)
  replace hkm := hkm.tr km
  replace k_x0 := km.at k_x0 (by decide)
  replace k_x2 := km.at k_x2 (by decide)
  refine lv_aload_n C.1 C.2.1 dX4_tree_125 rfl (lv_at hl 0 rfl) ?_
  refine gf_X4_50 C hW k_x0 dX4_tree_126 ?_
  refine lv_iconst (v := (4 : Int32)) C.1 C.2.1 dX4_tree_129 (by decide) ?_
  refine lv_icmp_ne (tgt := 145) C.1 C.2.1 dX4_tree_130 (by decide) (fun c_3 => ?_) (fun c_3 => ?_)
  · have hE := br_n hE c_3
    exact bX4_tree_145 C hr_X4_attempt hr_X4_reply hr_X4_goOn hr_X4_branch hr_X4_tree mr_X4_attempt mr_X4_reply mr_X4_goOn mr_X4_branch mr_X4_tree k_x0 k_x2 hkm hW hZ _ (lv_sub hl [0, 1, 2, 3] rfl) hE
  · have hE := br_p hE c_3
    refine lv_iload_n C.1 C.2.1 dX4_tree_133 rfl (lv_at hl 1 rfl) ?_
    refine lv_iconst (v := (1 : Int32)) C.1 C.2.1 dX4_tree_134 (by decide) ?_
    refine lv_iadd C.1 C.2.1 dX4_tree_135 ?_
    refine lv_aload_n C.1 C.2.1 dX4_tree_136 rfl (lv_at hl 0 rfl) ?_
    refine gf_X4_56 C hW k_x0 dX4_tree_137 ?_
    refine lv_icmp_ne (tgt := 145) C.1 C.2.1 dX4_tree_140 (by decide) (fun c_4 => ?_) (fun c_4 => ?_)
    · have hE := br_n hE c_4
      exact bX4_tree_145 C hr_X4_attempt hr_X4_reply hr_X4_goOn hr_X4_branch hr_X4_tree mr_X4_attempt mr_X4_reply mr_X4_goOn mr_X4_branch mr_X4_tree k_x0 k_x2 hkm hW hZ _ (lv_sub hl [0, 1, 2, 3] rfl) hE
    · have hE := br_p hE c_4
      refine lv_iload_n C.1 C.2.1 dX4_tree_143 rfl (lv_at hl 3 rfl) ?_
      exact x_iret C rfl rfl hW hZ hkm hE dX4_tree_144
set_option maxRecDepth 20000 in
theorem bX4_tree_117 {p : Program} {l : Launch} {e : Env} {s : State} {m : MethodId} {args : Array Value} {below : List Frame} {meth : Method} {c : Code} {X : Ec} {h0 : Hp} {o : Int32 × Hp} {d : Nat} {r_X4_attempt : Hp → Nat → Int32 → Int32 → Option (Int32 × Hp)} {r_X4_reply : Hp → Nat → Int32 → Option (Int32 × Hp)} {r_X4_goOn : Hp → Nat → Int32 → Option (Int32 × Hp)} {r_X4_branch : Hp → Nat → Int32 → Int32 → Option (Int32 × Hp)} {r_X4_tree : Hp → Nat → Int32 → Option (Int32 × Hp)} {F : Nat} (C : Cx X p s m args meth c RX4 cX4_tree 8 (some .int) "tree") (hr_X4_attempt : ∀ {h : Hp} {x0 : Nat} {x1 : Int32} {x2 : Int32} {o : Int32 × Hp}, hK h x0 = 4 → r_X4_attempt h x0 x1 x2 = some o → MetI l yX4_attempt cX4_attempt 6 (some .int)  (d + 6) (d * 27 + 161) X [.ref x0, .int x1, .int x2] h o) (hr_X4_reply : ∀ {h : Hp} {x0 : Nat} {x1 : Int32} {o : Int32 × Hp}, hK h x0 = 4 → r_X4_reply h x0 x1 = some o → MetI l yX4_reply cX4_reply 3 (some .int)  (d + 6) (d * 27 + 161) X [.ref x0, .int x1] h o) (hr_X4_goOn : ∀ {h : Hp} {x0 : Nat} {x1 : Int32} {o : Int32 × Hp}, hK h x0 = 4 → r_X4_goOn h x0 x1 = some o → MetI l yX4_goOn cX4_goOn 3 (some .int)  (d + 6) (d * 27 + 161) X [.ref x0, .int x1] h o) (hr_X4_branch : ∀ {h : Hp} {x0 : Nat} {x1 : Int32} {x2 : Int32} {o : Int32 × Hp}, hK h x0 = 4 → r_X4_branch h x0 x1 x2 = some o → MetI l yX4_branch cX4_branch 3 (some .int)  (d + 6) (d * 27 + 161) X [.ref x0, .int x1, .int x2] h o) (hr_X4_tree : ∀ {h : Hp} {x0 : Nat} {x1 : Int32} {o : Int32 × Hp}, hK h x0 = 4 → r_X4_tree h x0 x1 = some o → MetI l yX4_tree cX4_tree 8 (some .int)  (d + 6) (d * 27 + 161) X [.ref x0, .int x1] h o) (mr_X4_attempt : ∀ {h : Hp} {x0 : Nat} {x1 : Int32} {x2 : Int32} {o : Int32 × Hp}, r_X4_attempt h x0 x1 x2 = some o → Le h o.2) (mr_X4_reply : ∀ {h : Hp} {x0 : Nat} {x1 : Int32} {o : Int32 × Hp}, r_X4_reply h x0 x1 = some o → Le h o.2) (mr_X4_goOn : ∀ {h : Hp} {x0 : Nat} {x1 : Int32} {o : Int32 × Hp}, r_X4_goOn h x0 x1 = some o → Le h o.2) (mr_X4_branch : ∀ {h : Hp} {x0 : Nat} {x1 : Int32} {x2 : Int32} {o : Int32 × Hp}, r_X4_branch h x0 x1 x2 = some o → Le h o.2) (mr_X4_tree : ∀ {h : Hp} {x0 : Nat} {x1 : Int32} {o : Int32 × Hp}, r_X4_tree h x0 x1 = some o → Le h o.2) {h : Hp} {x0 : Nat} {x1 : Int32} {x2 : Nat} {x3 : Int32} {t0 : Nat} {H : Heap} {locs : List Loc} (k_x0 : hK h x0 = 4) (k_x2 : hK h x2 = 17) (k_t0 : hK h t0 = 4) (hkm : Km h0 h) (hW : Wx X h H) (hZ : va_S (aA (eB X)) s.heap H locs) (ls : Array Slot) (hl : lv_has ls 8 [(0, .ref x0), (1, .int x1), (2, .ref x2), (3, .int x3)]) (hE : sX4_tree_117 F r_X4_attempt r_X4_reply r_X4_goOn r_X4_branch r_X4_tree h x0 x1 x2 x3 t0 = some o) : W p l e (rm (d + 1 + 6) ((d + 1) * 27 + 161)) s m args below meth c H locs 0 0 (MQ below (QI X h0 o.1 o.2) args s 0 0 (aA (eB X))) (F0 m 117 ls [.ref t0]) := by
  refine lv_iconst (v := (1 : Int32)) C.1 C.2.1 dX4_tree_117 (by decide) ?_
  refine lv_goto (tgt := 122) C.1 C.2.1 dX4_tree_118 (by decide) ?_
  exact bX4_tree_122 C hr_X4_attempt hr_X4_reply hr_X4_goOn hr_X4_branch hr_X4_tree mr_X4_attempt mr_X4_reply mr_X4_goOn mr_X4_branch mr_X4_tree k_x0 k_x2 k_t0 hkm hW hZ _ (lv_sub hl [0, 1, 2, 3] rfl) hE
set_option maxRecDepth 20000 in
theorem bX4_tree_87 {p : Program} {l : Launch} {e : Env} {s : State} {m : MethodId} {args : Array Value} {below : List Frame} {meth : Method} {c : Code} {X : Ec} {h0 : Hp} {o : Int32 × Hp} {d : Nat} {r_X4_attempt : Hp → Nat → Int32 → Int32 → Option (Int32 × Hp)} {r_X4_reply : Hp → Nat → Int32 → Option (Int32 × Hp)} {r_X4_goOn : Hp → Nat → Int32 → Option (Int32 × Hp)} {r_X4_branch : Hp → Nat → Int32 → Int32 → Option (Int32 × Hp)} {r_X4_tree : Hp → Nat → Int32 → Option (Int32 × Hp)} {F : Nat} (C : Cx X p s m args meth c RX4 cX4_tree 8 (some .int) "tree") (hr_X4_attempt : ∀ {h : Hp} {x0 : Nat} {x1 : Int32} {x2 : Int32} {o : Int32 × Hp}, hK h x0 = 4 → r_X4_attempt h x0 x1 x2 = some o → MetI l yX4_attempt cX4_attempt 6 (some .int)  (d + 6) (d * 27 + 161) X [.ref x0, .int x1, .int x2] h o) (hr_X4_reply : ∀ {h : Hp} {x0 : Nat} {x1 : Int32} {o : Int32 × Hp}, hK h x0 = 4 → r_X4_reply h x0 x1 = some o → MetI l yX4_reply cX4_reply 3 (some .int)  (d + 6) (d * 27 + 161) X [.ref x0, .int x1] h o) (hr_X4_goOn : ∀ {h : Hp} {x0 : Nat} {x1 : Int32} {o : Int32 × Hp}, hK h x0 = 4 → r_X4_goOn h x0 x1 = some o → MetI l yX4_goOn cX4_goOn 3 (some .int)  (d + 6) (d * 27 + 161) X [.ref x0, .int x1] h o) (hr_X4_branch : ∀ {h : Hp} {x0 : Nat} {x1 : Int32} {x2 : Int32} {o : Int32 × Hp}, hK h x0 = 4 → r_X4_branch h x0 x1 x2 = some o → MetI l yX4_branch cX4_branch 3 (some .int)  (d + 6) (d * 27 + 161) X [.ref x0, .int x1, .int x2] h o) (hr_X4_tree : ∀ {h : Hp} {x0 : Nat} {x1 : Int32} {o : Int32 × Hp}, hK h x0 = 4 → r_X4_tree h x0 x1 = some o → MetI l yX4_tree cX4_tree 8 (some .int)  (d + 6) (d * 27 + 161) X [.ref x0, .int x1] h o) (mr_X4_attempt : ∀ {h : Hp} {x0 : Nat} {x1 : Int32} {x2 : Int32} {o : Int32 × Hp}, r_X4_attempt h x0 x1 x2 = some o → Le h o.2) (mr_X4_reply : ∀ {h : Hp} {x0 : Nat} {x1 : Int32} {o : Int32 × Hp}, r_X4_reply h x0 x1 = some o → Le h o.2) (mr_X4_goOn : ∀ {h : Hp} {x0 : Nat} {x1 : Int32} {o : Int32 × Hp}, r_X4_goOn h x0 x1 = some o → Le h o.2) (mr_X4_branch : ∀ {h : Hp} {x0 : Nat} {x1 : Int32} {x2 : Int32} {o : Int32 × Hp}, r_X4_branch h x0 x1 x2 = some o → Le h o.2) (mr_X4_tree : ∀ {h : Hp} {x0 : Nat} {x1 : Int32} {o : Int32 × Hp}, r_X4_tree h x0 x1 = some o → Le h o.2) {h : Hp} {x0 : Nat} {x1 : Int32} {x2 : Nat} {x3 : Int32} {t0 : Int32} {t1 : Int32} {t2 : Nat} {H : Heap} {locs : List Loc} (k_x0 : hK h x0 = 4) (k_x2 : hK h x2 = 17) (k_t2 : hK h t2 = 17) (hkm : Km h0 h) (hW : Wx X h H) (hZ : va_S (aA (eB X)) s.heap H locs) (ls : Array Slot) (hl : lv_has ls 8 [(0, .ref x0), (1, .int x1), (2, .ref x2), (3, .int x3)]) (hE : sX4_tree_87 F r_X4_attempt r_X4_reply r_X4_goOn r_X4_branch r_X4_tree h x0 x1 x2 x3 t0 t1 t2 = some o) : W p l e (rm (d + 1 + 6) ((d + 1) * 27 + 161)) s m args below meth c H locs 0 0 (MQ below (QI X h0 o.1 o.2) args s 0 0 (aA (eB X))) (F0 m 87 ls [.int t0, .int t1, .ref t2]) := by
  obtain ⟨g_1, hE⟩ := gd_e hE
  obtain ⟨h_2, eh_2, hE⟩ := nm_e2 hE
  refine y_iast C hW hZ k_t2 g_1 eh_2 dX4_tree_87 (fun _ _ hW km hZ => ?_)
  replace hkm := hkm.tr km
  replace k_x0 := km.at k_x0 (by decide)
  replace k_x2 := km.at k_x2 (by decide)
  refine lv_aload_n C.1 C.2.1 dX4_tree_88 rfl (lv_at hl 0 rfl) ?_
  obtain ⟨r_3, er_3, hE⟩ := cl_e hE
  refine gf_X4_26 C hW k_x0 er_3 dX4_tree_89 (fun k_r_3 => ?_)
  refine lv_iload_n C.1 C.2.1 dX4_tree_92 rfl (lv_at hl 1 rfl) ?_
  refine lv_dup2_11 C.1 C.2.1 dX4_tree_93 rfl rfl ?_
  obtain ⟨g_4, hE⟩ := gd_e hE
  refine y_iald C hW k_r_3 g_4 dX4_tree_94 ?_
  refine lv_iload_n C.1 C.2.1 dX4_tree_95 rfl (lv_at hl 3 rfl) ?_
  refine lv_iadd C.1 C.2.1 dX4_tree_96 ?_
  obtain ⟨g_5, hE⟩ := gd_e hE
  obtain ⟨h_6, eh_6, hE⟩ := nm_e2 hE
  refine y_iast C hW hZ k_r_3 g_5 eh_6 dX4_tree_97 (fun _ _ hW km hZ => ?_)
  replace hkm := hkm.tr km
  replace k_x0 := km.at k_x0 (by decide)
  replace k_x2 := km.at k_x2 (by decide)
  refine lv_aload_n C.1 C.2.1 dX4_tree_98 rfl (lv_at hl 0 rfl) ?_
  refine lv_aload_n C.1 C.2.1 dX4_tree_99 rfl (lv_at hl 0 rfl) ?_
  refine gf_X4_59 C hW k_x0 dX4_tree_100 ?_
  refine lv_if_ne (tgt := 117) C.1 C.2.1 dX4_tree_103 (by decide) (fun c_7 => ?_) (fun c_7 => ?_)
  · have hE := br_n hE c_7
    exact bX4_tree_117 C hr_X4_attempt hr_X4_reply hr_X4_goOn hr_X4_branch hr_X4_tree mr_X4_attempt mr_X4_reply mr_X4_goOn mr_X4_branch mr_X4_tree k_x0 k_x2 k_x0 hkm hW hZ _ (lv_sub hl [0, 1, 2, 3] rfl) hE
  · have hE := br_p hE c_7
    refine lv_aload_n C.1 C.2.1 dX4_tree_106 rfl (lv_at hl 0 rfl) ?_
    obtain ⟨r_8, er_8, hE⟩ := cl_e hE
    refine gf_X4_26 C hW k_x0 er_8 dX4_tree_107 (fun k_r_8 => ?_)
    refine lv_iload_n C.1 C.2.1 dX4_tree_110 rfl (lv_at hl 1 rfl) ?_
    obtain ⟨g_9, hE⟩ := gd_e hE
    refine y_iald C hW k_r_8 g_9 dX4_tree_111 ?_
    refine lv_ldc (v := (100000 : Int32)) C.1 C.2.1 C.2.2.2.1 (C.2.2.2.2.1 _ m_1365) dX4_tree_112 ?_
    refine lv_icmp_le (tgt := 121) C.1 C.2.1 dX4_tree_114 (by decide) (fun c_10 => ?_) (fun c_10 => ?_)
    · have hE := br_p hE c_10
      refine lv_iconst (v := (0 : Int32)) C.1 C.2.1 dX4_tree_121 (by decide) ?_
      exact bX4_tree_122 C hr_X4_attempt hr_X4_reply hr_X4_goOn hr_X4_branch hr_X4_tree mr_X4_attempt mr_X4_reply mr_X4_goOn mr_X4_branch mr_X4_tree k_x0 k_x2 k_x0 hkm hW hZ _ (lv_sub hl [0, 1, 2, 3] rfl) hE
    · have hE := br_n hE c_10
      exact bX4_tree_117 C hr_X4_attempt hr_X4_reply hr_X4_goOn hr_X4_branch hr_X4_tree mr_X4_attempt mr_X4_reply mr_X4_goOn mr_X4_branch mr_X4_tree k_x0 k_x2 k_x0 hkm hW hZ _ (lv_sub hl [0, 1, 2, 3] rfl) hE
set_option maxRecDepth 20000 in
theorem bX4_tree_58 {p : Program} {l : Launch} {e : Env} {s : State} {m : MethodId} {args : Array Value} {below : List Frame} {meth : Method} {c : Code} {X : Ec} {h0 : Hp} {o : Int32 × Hp} {d : Nat} {r_X4_attempt : Hp → Nat → Int32 → Int32 → Option (Int32 × Hp)} {r_X4_reply : Hp → Nat → Int32 → Option (Int32 × Hp)} {r_X4_goOn : Hp → Nat → Int32 → Option (Int32 × Hp)} {r_X4_branch : Hp → Nat → Int32 → Int32 → Option (Int32 × Hp)} {r_X4_tree : Hp → Nat → Int32 → Option (Int32 × Hp)} {F : Nat} (C : Cx X p s m args meth c RX4 cX4_tree 8 (some .int) "tree") (hr_X4_attempt : ∀ {h : Hp} {x0 : Nat} {x1 : Int32} {x2 : Int32} {o : Int32 × Hp}, hK h x0 = 4 → r_X4_attempt h x0 x1 x2 = some o → MetI l yX4_attempt cX4_attempt 6 (some .int)  (d + 6) (d * 27 + 161) X [.ref x0, .int x1, .int x2] h o) (hr_X4_reply : ∀ {h : Hp} {x0 : Nat} {x1 : Int32} {o : Int32 × Hp}, hK h x0 = 4 → r_X4_reply h x0 x1 = some o → MetI l yX4_reply cX4_reply 3 (some .int)  (d + 6) (d * 27 + 161) X [.ref x0, .int x1] h o) (hr_X4_goOn : ∀ {h : Hp} {x0 : Nat} {x1 : Int32} {o : Int32 × Hp}, hK h x0 = 4 → r_X4_goOn h x0 x1 = some o → MetI l yX4_goOn cX4_goOn 3 (some .int)  (d + 6) (d * 27 + 161) X [.ref x0, .int x1] h o) (hr_X4_branch : ∀ {h : Hp} {x0 : Nat} {x1 : Int32} {x2 : Int32} {o : Int32 × Hp}, hK h x0 = 4 → r_X4_branch h x0 x1 x2 = some o → MetI l yX4_branch cX4_branch 3 (some .int)  (d + 6) (d * 27 + 161) X [.ref x0, .int x1, .int x2] h o) (hr_X4_tree : ∀ {h : Hp} {x0 : Nat} {x1 : Int32} {o : Int32 × Hp}, hK h x0 = 4 → r_X4_tree h x0 x1 = some o → MetI l yX4_tree cX4_tree 8 (some .int)  (d + 6) (d * 27 + 161) X [.ref x0, .int x1] h o) (mr_X4_attempt : ∀ {h : Hp} {x0 : Nat} {x1 : Int32} {x2 : Int32} {o : Int32 × Hp}, r_X4_attempt h x0 x1 x2 = some o → Le h o.2) (mr_X4_reply : ∀ {h : Hp} {x0 : Nat} {x1 : Int32} {o : Int32 × Hp}, r_X4_reply h x0 x1 = some o → Le h o.2) (mr_X4_goOn : ∀ {h : Hp} {x0 : Nat} {x1 : Int32} {o : Int32 × Hp}, r_X4_goOn h x0 x1 = some o → Le h o.2) (mr_X4_branch : ∀ {h : Hp} {x0 : Nat} {x1 : Int32} {x2 : Int32} {o : Int32 × Hp}, r_X4_branch h x0 x1 x2 = some o → Le h o.2) (mr_X4_tree : ∀ {h : Hp} {x0 : Nat} {x1 : Int32} {o : Int32 × Hp}, r_X4_tree h x0 x1 = some o → Le h o.2) {h : Hp} {x0 : Nat} {x1 : Int32} {x2 : Nat} {x3 : Int32} {t0 : Int32} {t1 : Nat} {H : Heap} {locs : List Loc} (k_x0 : hK h x0 = 4) (k_x2 : hK h x2 = 17) (k_t1 : hK h t1 = 4) (hkm : Km h0 h) (hW : Wx X h H) (hZ : va_S (aA (eB X)) s.heap H locs) (ls : Array Slot) (hl : lv_has ls 8 [(0, .ref x0), (1, .int x1), (2, .ref x2), (3, .int x3)]) (hE : sX4_tree_58 F r_X4_attempt r_X4_reply r_X4_goOn r_X4_branch r_X4_tree h x0 x1 x2 x3 t0 t1 = some o) : W p l e (rm (d + 1 + 6) ((d + 1) * 27 + 161)) s m args below meth c H locs 0 0 (MQ below (QI X h0 o.1 o.2) args s 0 0 (aA (eB X))) (F0 m 58 ls [.int t0, .ref t1]) := by
  obtain ⟨h_1, eh_1, hE⟩ := nm_e2 hE
  refine pf_X4_83 C hW hZ k_t1 eh_1 dX4_tree_58 (fun _ _ hW km hZ => ?_)
  replace hkm := hkm.tr km
  replace k_x0 := km.at k_x0 (by decide)
  replace k_x2 := km.at k_x2 (by decide)
  refine lv_aload_n C.1 C.2.1 dX4_tree_61 rfl (lv_at hl 0 rfl) ?_
  obtain ⟨r_2, er_2, hE⟩ := cl_e hE
  refine gf_X4_22 C hW k_x0 er_2 dX4_tree_62 (fun k_r_2 => ?_)
  refine lv_iload_n C.1 C.2.1 dX4_tree_65 rfl (lv_at hl 1 rfl) ?_
  refine lv_iload_n C.1 C.2.1 dX4_tree_66 rfl (lv_at hl 3 rfl) ?_
  refine lv_if_le (tgt := 74) C.1 C.2.1 dX4_tree_67 (by decide) (fun c_3 => ?_) (fun c_3 => ?_)
  · have hE := br_p hE c_3
    refine lv_aload_n C.1 C.2.1 dX4_tree_74 rfl (lv_at hl 0 rfl) ?_
    obtain ⟨r_4, er_4, hE⟩ := cl_e hE
    refine gf_X4_45 C hW k_x0 er_4 dX4_tree_75 (fun k_r_4 => ?_)
    refine lv_aload_n C.1 C.2.1 dX4_tree_78 rfl (lv_at hl 0 rfl) ?_
    obtain ⟨r_5, er_5, hE⟩ := cl_e hE
    refine gf_X4_13 C hW k_x0 er_5 dX4_tree_79 (fun k_r_5 => ?_)
    refine lv_iload_n C.1 C.2.1 dX4_tree_82 rfl (lv_at hl 1 rfl) ?_
    obtain ⟨g_6, hE⟩ := gd_e hE
    obtain ⟨r_7, er_7, hE⟩ := cl_e hE
    refine y_aald (t0 := 4) C hW k_r_5 (by decide) (by decide) rfl rfl rfl (fun _ => rfl) g_6 er_7 dX4_tree_83 (fun k_r_7 => ?_)
    obtain ⟨o_8, eo_8, hE⟩ := cl_e hE
    refine x_kI (o := o_8) (z_runV (As := [.ref r_7]) (rest := [.int x1, .ref r_2]) C (ct_X5_endOf l X F k_r_4 k_r_7 eo_8) cw_X4_86 hW hZ k_r_4 (by decide) rfl rfl rfl hl.1 (Nat.le_of_ble_eq_true rfl) rfl dX4_tree_84 ⟨by dsimp only [rm, rmA]; omega, by dsimp only [rm, rmA]; omega⟩ ⟨Nat.le_refl _, Nat.le_refl _⟩) hZ (fun _ _ hW km hZ => ?_)
    replace hkm := hkm.tr km
    replace k_x0 := km.at k_x0 (by decide)
    replace k_x2 := km.at k_x2 (by decide)
    replace k_r_2 := km.at k_r_2 (by decide)
    exact bX4_tree_87 C hr_X4_attempt hr_X4_reply hr_X4_goOn hr_X4_branch hr_X4_tree mr_X4_attempt mr_X4_reply mr_X4_goOn mr_X4_branch mr_X4_tree k_x0 k_x2 k_r_2 hkm hW hZ _ (lv_sub hl [0, 1, 2, 3] rfl) hE
  · have hE := br_n hE c_3
    refine lv_iconst (v := (0 : Int32)) C.1 C.2.1 dX4_tree_70 (by decide) ?_
    refine lv_goto (tgt := 87) C.1 C.2.1 dX4_tree_71 (by decide) ?_
    exact bX4_tree_87 C hr_X4_attempt hr_X4_reply hr_X4_goOn hr_X4_branch hr_X4_tree mr_X4_attempt mr_X4_reply mr_X4_goOn mr_X4_branch mr_X4_tree k_x0 k_x2 k_r_2 hkm hW hZ _ (lv_sub hl [0, 1, 2, 3] rfl) hE
set_option maxRecDepth 20000 in
theorem ot_X4_tree (l : Launch) (X : Ec) (F : Nat) {d : Nat} {r_X4_attempt : Hp → Nat → Int32 → Int32 → Option (Int32 × Hp)} {r_X4_reply : Hp → Nat → Int32 → Option (Int32 × Hp)} {r_X4_goOn : Hp → Nat → Int32 → Option (Int32 × Hp)} {r_X4_branch : Hp → Nat → Int32 → Int32 → Option (Int32 × Hp)} {r_X4_tree : Hp → Nat → Int32 → Option (Int32 × Hp)} (hr_X4_attempt : ∀ {h : Hp} {x0 : Nat} {x1 : Int32} {x2 : Int32} {o : Int32 × Hp}, hK h x0 = 4 → r_X4_attempt h x0 x1 x2 = some o → MetI l yX4_attempt cX4_attempt 6 (some .int)  (d + 6) (d * 27 + 161) X [.ref x0, .int x1, .int x2] h o) (hr_X4_reply : ∀ {h : Hp} {x0 : Nat} {x1 : Int32} {o : Int32 × Hp}, hK h x0 = 4 → r_X4_reply h x0 x1 = some o → MetI l yX4_reply cX4_reply 3 (some .int)  (d + 6) (d * 27 + 161) X [.ref x0, .int x1] h o) (hr_X4_goOn : ∀ {h : Hp} {x0 : Nat} {x1 : Int32} {o : Int32 × Hp}, hK h x0 = 4 → r_X4_goOn h x0 x1 = some o → MetI l yX4_goOn cX4_goOn 3 (some .int)  (d + 6) (d * 27 + 161) X [.ref x0, .int x1] h o) (hr_X4_branch : ∀ {h : Hp} {x0 : Nat} {x1 : Int32} {x2 : Int32} {o : Int32 × Hp}, hK h x0 = 4 → r_X4_branch h x0 x1 x2 = some o → MetI l yX4_branch cX4_branch 3 (some .int)  (d + 6) (d * 27 + 161) X [.ref x0, .int x1, .int x2] h o) (hr_X4_tree : ∀ {h : Hp} {x0 : Nat} {x1 : Int32} {o : Int32 × Hp}, hK h x0 = 4 → r_X4_tree h x0 x1 = some o → MetI l yX4_tree cX4_tree 8 (some .int)  (d + 6) (d * 27 + 161) X [.ref x0, .int x1] h o) (mr_X4_attempt : ∀ {h : Hp} {x0 : Nat} {x1 : Int32} {x2 : Int32} {o : Int32 × Hp}, r_X4_attempt h x0 x1 x2 = some o → Le h o.2) (mr_X4_reply : ∀ {h : Hp} {x0 : Nat} {x1 : Int32} {o : Int32 × Hp}, r_X4_reply h x0 x1 = some o → Le h o.2) (mr_X4_goOn : ∀ {h : Hp} {x0 : Nat} {x1 : Int32} {o : Int32 × Hp}, r_X4_goOn h x0 x1 = some o → Le h o.2) (mr_X4_branch : ∀ {h : Hp} {x0 : Nat} {x1 : Int32} {x2 : Int32} {o : Int32 × Hp}, r_X4_branch h x0 x1 x2 = some o → Le h o.2) (mr_X4_tree : ∀ {h : Hp} {x0 : Nat} {x1 : Int32} {o : Int32 × Hp}, r_X4_tree h x0 x1 = some o → Le h o.2) {h : Hp} {x0 : Nat} {x1 : Int32} {o : Int32 × Hp} (k_x0 : hK h x0 = 4) (hE : oX4_tree F r_X4_attempt r_X4_reply r_X4_goOn r_X4_branch r_X4_tree h x0 x1 = some o) : MetI l yX4_tree cX4_tree 8 (some .int) (d + 1 + 6) ((d + 1) * 27 + 161) X [.ref x0, .int x1] h o := by
  refine x_met (by decide) (Nat.le_of_ble_eq_true rfl) ?_
  intro p e s m below meth c ls C hl hW hZ
  have hl : lv_has ls 8 [(0, .ref x0), (1, .int x1)] := hl
  have hkm : Km h h := Km.rf h
  refine lv_iload_n C.1 C.2.1 dX4_tree_0 rfl (lv_at hl 1 rfl) ?_
  refine lv_if_lt (tgt := 18) C.1 C.2.1 dX4_tree_1 (by decide) (fun c_1 => ?_) (fun c_1 => ?_)
  · have hE := br_p hE c_1
    exact bX4_tree_18 C hr_X4_attempt hr_X4_reply hr_X4_goOn hr_X4_branch hr_X4_tree mr_X4_attempt mr_X4_reply mr_X4_goOn mr_X4_branch mr_X4_tree hkm hW hZ _ (lv_sub hl [] rfl) hE
  · have hE := br_n hE c_1
    refine lv_iload_n C.1 C.2.1 dX4_tree_4 rfl (lv_at hl 1 rfl) ?_
    refine lv_aload_n C.1 C.2.1 dX4_tree_5 rfl (lv_at hl 0 rfl) ?_
    refine gf_X4_56 C hW k_x0 dX4_tree_6 ?_
    refine lv_icmp_ge (tgt := 18) C.1 C.2.1 dX4_tree_9 (by decide) (fun c_2 => ?_) (fun c_2 => ?_)
    · have hE := br_p hE c_2
      exact bX4_tree_18 C hr_X4_attempt hr_X4_reply hr_X4_goOn hr_X4_branch hr_X4_tree mr_X4_attempt mr_X4_reply mr_X4_goOn mr_X4_branch mr_X4_tree hkm hW hZ _ (lv_sub hl [] rfl) hE
    · have hE := br_n hE c_2
      refine lv_iload_n C.1 C.2.1 dX4_tree_12 rfl (lv_at hl 1 rfl) ?_
      refine lv_bipush (v := (8 : Int32)) C.1 C.2.1 dX4_tree_13 (by decide) ?_
      refine lv_icmp_lt (tgt := 20) C.1 C.2.1 dX4_tree_15 (by decide) (fun c_3 => ?_) (fun c_3 => ?_)
      · have hE := br_p hE c_3
        refine lv_aload_n C.1 C.2.1 dX4_tree_20 rfl (lv_at hl 0 rfl) ?_
        obtain ⟨r_4, er_4, hE⟩ := cl_e hE
        refine gf_X4_19 C hW k_x0 er_4 dX4_tree_21 (fun k_r_4 => ?_)
        refine lv_iload_n C.1 C.2.1 dX4_tree_24 rfl (lv_at hl 1 rfl) ?_
        obtain ⟨g_5, hE⟩ := gd_e hE
        obtain ⟨r_6, er_6, hE⟩ := cl_e hE
        refine y_aald (t0 := 7) C hW k_r_4 (by decide) (by decide) rfl rfl rfl (fun _ => rfl) g_5 er_6 dX4_tree_25 (fun k_r_6 => ?_)
        refine lv_astore_n (lv' := [(2, .ref r_6), (0, .ref x0), (1, .int x1)]) C.1 C.2.1 dX4_tree_26 rfl hl (by decide) rfl (fun ls hl => ?_)
        refine lv_aload_n C.1 C.2.1 dX4_tree_27 rfl (lv_at hl 1 rfl) ?_
        obtain ⟨r_7, er_7, hE⟩ := cl_e hE
        refine gf_X4_45 C hW k_x0 er_7 dX4_tree_28 (fun k_r_7 => ?_)
        refine lv_aload_n C.1 C.2.1 dX4_tree_31 rfl (lv_at hl 1 rfl) ?_
        obtain ⟨r_8, er_8, hE⟩ := cl_e hE
        refine gf_X4_13 C hW k_x0 er_8 dX4_tree_32 (fun k_r_8 => ?_)
        refine lv_iload_n C.1 C.2.1 dX4_tree_35 rfl (lv_at hl 2 rfl) ?_
        obtain ⟨g_9, hE⟩ := gd_e hE
        obtain ⟨r_10, er_10, hE⟩ := cl_e hE
        refine y_aald (t0 := 4) C hW k_r_8 (by decide) (by decide) rfl rfl rfl (fun _ => rfl) g_9 er_10 dX4_tree_36 (fun k_r_10 => ?_)
        refine lv_aload_n C.1 C.2.1 dX4_tree_37 rfl (lv_at hl 0 rfl) ?_
        refine lv_sipush (v := (4096 : Int32)) C.1 C.2.1 dX4_tree_38 (by decide) ?_
        obtain ⟨o_11, eo_11, hE⟩ := cl_e hE
        refine x_kI (o := o_11) (z_runV (As := [.ref r_10, .ref r_6, .int (4096 : Int32)]) (rest := []) C (ct_X5_collect l X F k_r_7 k_r_10 k_r_6 eo_11) cw_X4_77 hW hZ k_r_7 (by decide) rfl rfl rfl hl.1 (Nat.le_of_ble_eq_true rfl) rfl dX4_tree_41 ⟨by dsimp only [rm, rmA]; omega, by dsimp only [rm, rmA]; omega⟩ ⟨Nat.le_refl _, Nat.le_refl _⟩) hZ (fun _ _ hW km hZ => ?_)
        replace hkm := hkm.tr km
        replace k_r_6 := km.at k_r_6 (by decide)
        replace k_x0 := km.at k_x0 (by decide)
        refine lv_istore_n (lv' := [(3, .int o_11.1), (2, .ref r_6), (0, .ref x0), (1, .int x1)]) C.1 C.2.1 dX4_tree_44 rfl hl (by decide) rfl (fun ls hl => ?_)
        refine lv_aload_n C.1 C.2.1 dX4_tree_45 rfl (lv_at hl 2 rfl) ?_
        refine lv_iload_n C.1 C.2.1 dX4_tree_46 rfl (lv_at hl 3 rfl) ?_
        refine lv_if_ne (tgt := 54) C.1 C.2.1 dX4_tree_47 (by decide) (fun c_12 => ?_) (fun c_12 => ?_)
        · have hE := br_n hE c_12
          refine lv_aload_n C.1 C.2.1 dX4_tree_54 rfl (lv_at hl 2 rfl) ?_
          refine gf_X4_83 C hW k_x0 dX4_tree_55 ?_
          exact bX4_tree_58 C hr_X4_attempt hr_X4_reply hr_X4_goOn hr_X4_branch hr_X4_tree mr_X4_attempt mr_X4_reply mr_X4_goOn mr_X4_branch mr_X4_tree k_x0 k_r_6 k_x0 hkm hW hZ _ (lv_sub hl [2, 3, 1, 0] rfl) hE
        · have hE := br_p hE c_12
          refine lv_iload_n C.1 C.2.1 dX4_tree_50 rfl (lv_at hl 0 rfl) ?_
          refine lv_goto (tgt := 58) C.1 C.2.1 dX4_tree_51 (by decide) ?_
          exact bX4_tree_58 C hr_X4_attempt hr_X4_reply hr_X4_goOn hr_X4_branch hr_X4_tree mr_X4_attempt mr_X4_reply mr_X4_goOn mr_X4_branch mr_X4_tree k_x0 k_r_6 k_x0 hkm hW hZ _ (lv_sub hl [2, 3, 1, 0] rfl) hE
      · have hE := br_n hE c_3
        exact bX4_tree_18 C hr_X4_attempt hr_X4_reply hr_X4_goOn hr_X4_branch hr_X4_tree mr_X4_attempt mr_X4_reply mr_X4_goOn mr_X4_branch mr_X4_tree hkm hW hZ _ (lv_sub hl [] rfl) hE
theorem qmX4_attempt (F : Nat) : ∀ (d : Nat), (∀ {h : Hp} {x0 : Nat} {x1 : Int32} {x2 : Int32} {o : Int32 × Hp}, (qX4_attempt F d).1 h x0 x1 x2 = some o → Le h o.2) ∧ (∀ {h : Hp} {x0 : Nat} {x1 : Int32} {o : Int32 × Hp}, (qX4_attempt F d).2.1 h x0 x1 = some o → Le h o.2) ∧ (∀ {h : Hp} {x0 : Nat} {x1 : Int32} {o : Int32 × Hp}, (qX4_attempt F d).2.2.1 h x0 x1 = some o → Le h o.2) ∧ (∀ {h : Hp} {x0 : Nat} {x1 : Int32} {x2 : Int32} {o : Int32 × Hp}, (qX4_attempt F d).2.2.2.1 h x0 x1 x2 = some o → Le h o.2) ∧ (∀ {h : Hp} {x0 : Nat} {x1 : Int32} {o : Int32 × Hp}, (qX4_attempt F d).2.2.2.2 h x0 x1 = some o → Le h o.2) := by
  intro d
  induction d with
  | zero => exact ⟨fun hE => (by cases hE), fun hE => (by cases hE), fun hE => (by cases hE), fun hE => (by cases hE), fun hE => (by cases hE)⟩
  | succ d ih => exact ⟨fun hE => mooX4_attempt (F := F) (r_X4_attempt := (qX4_attempt F d).1) (r_X4_reply := (qX4_attempt F d).2.1) (r_X4_goOn := (qX4_attempt F d).2.2.1) (r_X4_branch := (qX4_attempt F d).2.2.2.1) (r_X4_tree := (qX4_attempt F d).2.2.2.2) (ih).1 (ih).2.1 (ih).2.2.1 (ih).2.2.2.1 (ih).2.2.2.2 hE, fun hE => mooX4_reply (F := F) (r_X4_attempt := (qX4_attempt F d).1) (r_X4_reply := (qX4_attempt F d).2.1) (r_X4_goOn := (qX4_attempt F d).2.2.1) (r_X4_branch := (qX4_attempt F d).2.2.2.1) (r_X4_tree := (qX4_attempt F d).2.2.2.2) (ih).1 (ih).2.1 (ih).2.2.1 (ih).2.2.2.1 (ih).2.2.2.2 hE, fun hE => mooX4_goOn (F := F) (r_X4_attempt := (qX4_attempt F d).1) (r_X4_reply := (qX4_attempt F d).2.1) (r_X4_goOn := (qX4_attempt F d).2.2.1) (r_X4_branch := (qX4_attempt F d).2.2.2.1) (r_X4_tree := (qX4_attempt F d).2.2.2.2) (ih).1 (ih).2.1 (ih).2.2.1 (ih).2.2.2.1 (ih).2.2.2.2 hE, fun hE => mooX4_branch (F := F) (r_X4_attempt := (qX4_attempt F d).1) (r_X4_reply := (qX4_attempt F d).2.1) (r_X4_goOn := (qX4_attempt F d).2.2.1) (r_X4_branch := (qX4_attempt F d).2.2.2.1) (r_X4_tree := (qX4_attempt F d).2.2.2.2) (ih).1 (ih).2.1 (ih).2.2.1 (ih).2.2.2.1 (ih).2.2.2.2 hE, fun hE => mooX4_tree (F := F) (r_X4_attempt := (qX4_attempt F d).1) (r_X4_reply := (qX4_attempt F d).2.1) (r_X4_goOn := (qX4_attempt F d).2.2.1) (r_X4_branch := (qX4_attempt F d).2.2.2.1) (r_X4_tree := (qX4_attempt F d).2.2.2.2) (ih).1 (ih).2.1 (ih).2.2.1 (ih).2.2.2.1 (ih).2.2.2.2 hE⟩
theorem qtX4_attempt (l : Launch) (X : Ec) (F : Nat) : ∀ (d : Nat), (∀ {h : Hp} {x0 : Nat} {x1 : Int32} {x2 : Int32} {o : Int32 × Hp}, hK h x0 = 4 → (qX4_attempt F d).1 h x0 x1 x2 = some o → MetI l yX4_attempt cX4_attempt 6 (some .int)  (d + 6) (d * 27 + 161) X [.ref x0, .int x1, .int x2] h o) ∧ (∀ {h : Hp} {x0 : Nat} {x1 : Int32} {o : Int32 × Hp}, hK h x0 = 4 → (qX4_attempt F d).2.1 h x0 x1 = some o → MetI l yX4_reply cX4_reply 3 (some .int)  (d + 6) (d * 27 + 161) X [.ref x0, .int x1] h o) ∧ (∀ {h : Hp} {x0 : Nat} {x1 : Int32} {o : Int32 × Hp}, hK h x0 = 4 → (qX4_attempt F d).2.2.1 h x0 x1 = some o → MetI l yX4_goOn cX4_goOn 3 (some .int)  (d + 6) (d * 27 + 161) X [.ref x0, .int x1] h o) ∧ (∀ {h : Hp} {x0 : Nat} {x1 : Int32} {x2 : Int32} {o : Int32 × Hp}, hK h x0 = 4 → (qX4_attempt F d).2.2.2.1 h x0 x1 x2 = some o → MetI l yX4_branch cX4_branch 3 (some .int)  (d + 6) (d * 27 + 161) X [.ref x0, .int x1, .int x2] h o) ∧ (∀ {h : Hp} {x0 : Nat} {x1 : Int32} {o : Int32 × Hp}, hK h x0 = 4 → (qX4_attempt F d).2.2.2.2 h x0 x1 = some o → MetI l yX4_tree cX4_tree 8 (some .int)  (d + 6) (d * 27 + 161) X [.ref x0, .int x1] h o) := by
  intro d
  induction d with
  | zero => exact ⟨fun k_x0 hE => (by cases hE), fun k_x0 hE => (by cases hE), fun k_x0 hE => (by cases hE), fun k_x0 hE => (by cases hE), fun k_x0 hE => (by cases hE)⟩
  | succ d ih => exact ⟨fun k_x0 hE => ot_X4_attempt l X F (r_X4_attempt := (qX4_attempt F d).1) (r_X4_reply := (qX4_attempt F d).2.1) (r_X4_goOn := (qX4_attempt F d).2.2.1) (r_X4_branch := (qX4_attempt F d).2.2.2.1) (r_X4_tree := (qX4_attempt F d).2.2.2.2) (ih).1 (ih).2.1 (ih).2.2.1 (ih).2.2.2.1 (ih).2.2.2.2 (qmX4_attempt F d).1 (qmX4_attempt F d).2.1 (qmX4_attempt F d).2.2.1 (qmX4_attempt F d).2.2.2.1 (qmX4_attempt F d).2.2.2.2 k_x0 hE, fun k_x0 hE => ot_X4_reply l X F (r_X4_attempt := (qX4_attempt F d).1) (r_X4_reply := (qX4_attempt F d).2.1) (r_X4_goOn := (qX4_attempt F d).2.2.1) (r_X4_branch := (qX4_attempt F d).2.2.2.1) (r_X4_tree := (qX4_attempt F d).2.2.2.2) (ih).1 (ih).2.1 (ih).2.2.1 (ih).2.2.2.1 (ih).2.2.2.2 (qmX4_attempt F d).1 (qmX4_attempt F d).2.1 (qmX4_attempt F d).2.2.1 (qmX4_attempt F d).2.2.2.1 (qmX4_attempt F d).2.2.2.2 k_x0 hE, fun k_x0 hE => ot_X4_goOn l X F (r_X4_attempt := (qX4_attempt F d).1) (r_X4_reply := (qX4_attempt F d).2.1) (r_X4_goOn := (qX4_attempt F d).2.2.1) (r_X4_branch := (qX4_attempt F d).2.2.2.1) (r_X4_tree := (qX4_attempt F d).2.2.2.2) (ih).1 (ih).2.1 (ih).2.2.1 (ih).2.2.2.1 (ih).2.2.2.2 (qmX4_attempt F d).1 (qmX4_attempt F d).2.1 (qmX4_attempt F d).2.2.1 (qmX4_attempt F d).2.2.2.1 (qmX4_attempt F d).2.2.2.2 k_x0 hE, fun k_x0 hE => ot_X4_branch l X F (r_X4_attempt := (qX4_attempt F d).1) (r_X4_reply := (qX4_attempt F d).2.1) (r_X4_goOn := (qX4_attempt F d).2.2.1) (r_X4_branch := (qX4_attempt F d).2.2.2.1) (r_X4_tree := (qX4_attempt F d).2.2.2.2) (ih).1 (ih).2.1 (ih).2.2.1 (ih).2.2.2.1 (ih).2.2.2.2 (qmX4_attempt F d).1 (qmX4_attempt F d).2.1 (qmX4_attempt F d).2.2.1 (qmX4_attempt F d).2.2.2.1 (qmX4_attempt F d).2.2.2.2 k_x0 hE, fun k_x0 hE => ot_X4_tree l X F (r_X4_attempt := (qX4_attempt F d).1) (r_X4_reply := (qX4_attempt F d).2.1) (r_X4_goOn := (qX4_attempt F d).2.2.1) (r_X4_branch := (qX4_attempt F d).2.2.2.1) (r_X4_tree := (qX4_attempt F d).2.2.2.2) (ih).1 (ih).2.1 (ih).2.2.1 (ih).2.2.2.1 (ih).2.2.2.2 (qmX4_attempt F d).1 (qmX4_attempt F d).2.1 (qmX4_attempt F d).2.2.1 (qmX4_attempt F d).2.2.2.1 (qmX4_attempt F d).2.2.2.2 k_x0 hE⟩
theorem moX4_attempt {o : Int32 × Hp} {F : Nat} {h : Hp} {x0 : Nat} {x1 : Int32} {x2 : Int32} (hE : sX4_attempt F h x0 x1 x2 = some o) : Le h o.2 := (qmX4_attempt F 40).1 hE
theorem ct_X4_attempt (l : Launch) (X : Ec) (F : Nat) {h : Hp} {x0 : Nat} {x1 : Int32} {x2 : Int32} {o : Int32 × Hp} (k_x0 : hK h x0 = 4) (hE : sX4_attempt F h x0 x1 x2 = some o) : MetI l yX4_attempt cX4_attempt 6 (some .int) 46 1241 X [.ref x0, .int x1, .int x2] h o := (qtX4_attempt l X F 40).1 k_x0 hE
theorem moX4_reply {o : Int32 × Hp} {F : Nat} {h : Hp} {x0 : Nat} {x1 : Int32} (hE : sX4_reply F h x0 x1 = some o) : Le h o.2 := (qmX4_attempt F 40).2.1 hE
theorem ct_X4_reply (l : Launch) (X : Ec) (F : Nat) {h : Hp} {x0 : Nat} {x1 : Int32} {o : Int32 × Hp} (k_x0 : hK h x0 = 4) (hE : sX4_reply F h x0 x1 = some o) : MetI l yX4_reply cX4_reply 3 (some .int) 46 1241 X [.ref x0, .int x1] h o := (qtX4_attempt l X F 40).2.1 k_x0 hE
theorem moX4_goOn {o : Int32 × Hp} {F : Nat} {h : Hp} {x0 : Nat} {x1 : Int32} (hE : sX4_goOn F h x0 x1 = some o) : Le h o.2 := (qmX4_attempt F 40).2.2.1 hE
theorem ct_X4_goOn (l : Launch) (X : Ec) (F : Nat) {h : Hp} {x0 : Nat} {x1 : Int32} {o : Int32 × Hp} (k_x0 : hK h x0 = 4) (hE : sX4_goOn F h x0 x1 = some o) : MetI l yX4_goOn cX4_goOn 3 (some .int) 46 1241 X [.ref x0, .int x1] h o := (qtX4_attempt l X F 40).2.2.1 k_x0 hE
theorem moX4_branch {o : Int32 × Hp} {F : Nat} {h : Hp} {x0 : Nat} {x1 : Int32} {x2 : Int32} (hE : sX4_branch F h x0 x1 x2 = some o) : Le h o.2 := (qmX4_attempt F 40).2.2.2.1 hE
theorem ct_X4_branch (l : Launch) (X : Ec) (F : Nat) {h : Hp} {x0 : Nat} {x1 : Int32} {x2 : Int32} {o : Int32 × Hp} (k_x0 : hK h x0 = 4) (hE : sX4_branch F h x0 x1 x2 = some o) : MetI l yX4_branch cX4_branch 3 (some .int) 46 1241 X [.ref x0, .int x1, .int x2] h o := (qtX4_attempt l X F 40).2.2.2.1 k_x0 hE
theorem moX4_tree {o : Int32 × Hp} {F : Nat} {h : Hp} {x0 : Nat} {x1 : Int32} (hE : sX4_tree F h x0 x1 = some o) : Le h o.2 := (qmX4_attempt F 40).2.2.2.2 hE
theorem ct_X4_tree (l : Launch) (X : Ec) (F : Nat) {h : Hp} {x0 : Nat} {x1 : Int32} {o : Int32 × Hp} (k_x0 : hK h x0 = 4) (hE : sX4_tree F h x0 x1 = some o) : MetI l yX4_tree cX4_tree 8 (some .int) 46 1241 X [.ref x0, .int x1] h o := (qtX4_attempt l X F 40).2.2.2.2 k_x0 hE
