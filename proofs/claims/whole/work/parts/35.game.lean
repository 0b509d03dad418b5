theorem m_31 : Cond.methodLink RX11 3 objectInit ∈ W0 := w0_in (List.mem_append_right _ (List.mem_of_getElem? (i := 31) (by decide +kernel))) rfl
theorem m_34 : Cond.classLink RX11 9 RX9 ∈ W0 := w0_in (List.mem_append_right _ (List.mem_of_getElem? (i := 34) (by decide +kernel))) rfl
theorem m_36 : Cond.methodLink RX11 11 yX9_init ∈ W0 := w0_in (List.mem_append_right _ (List.mem_of_getElem? (i := 36) (by decide +kernel))) rfl
theorem m_55 : Cond.classLink RX11 21 RX1 ∈ W0 := w0_in (List.mem_append_right _ (List.mem_of_getElem? (i := 55) (by decide +kernel))) rfl
theorem m_56 : Cond.instantiable RX1 21 ∈ W0 := w0_in (List.mem_append_right _ (List.mem_of_getElem? (i := 56) (by decide +kernel))) rfl
theorem n_57 : Cond.methodLinkNest RX11 23 yX1_init "GameRules" ∈ tables_1 := List.mem_of_getElem? (i := 57) (by decide +kernel)
theorem m_58 : Cond.instanceMethod yX1_init ∈ W0 := w0_in (List.mem_append_right _ (List.mem_of_getElem? (i := 58) (by decide +kernel))) rfl
theorem m_59 : Cond.code yX1_init cX1_init 1 none ∈ W0 := w0_in (List.mem_append_right _ (List.mem_of_getElem? (i := 59) (by decide +kernel))) rfl
theorem m_189 : Cond.classLink RX11 31 RX2 ∈ W0 := w0_in (List.mem_append_right _ (List.mem_of_getElem? (i := 189) (by decide +kernel))) rfl
theorem m_190 : Cond.instantiable RX2 7 ∈ W0 := w0_in (List.mem_append_right _ (List.mem_of_getElem? (i := 190) (by decide +kernel))) rfl
theorem n_191 : Cond.methodLinkNest RX11 33 yX2_init "GameRules" ∈ tables_1 := List.mem_of_getElem? (i := 191) (by decide +kernel)
theorem m_192 : Cond.instanceMethod yX2_init ∈ W0 := w0_in (List.mem_append_right _ (List.mem_of_getElem? (i := 192) (by decide +kernel))) rfl
theorem m_193 : Cond.code yX2_init cX2_init 1 none ∈ W0 := w0_in (List.mem_append_right _ (List.mem_of_getElem? (i := 193) (by decide +kernel))) rfl
theorem m_217 : Cond.classLink RX11 38 RX10 ∈ W0 := w0_in (List.mem_append_right _ (List.mem_of_getElem? (i := 217) (by decide +kernel))) rfl
theorem m_218 : Cond.instantiable RX10 9 ∈ W0 := w0_in (List.mem_append_right _ (List.mem_of_getElem? (i := 218) (by decide +kernel))) rfl
theorem n_219 : Cond.methodLinkNest RX11 40 yX10_init "GameRules" ∈ tables_1 := List.mem_of_getElem? (i := 219) (by decide +kernel)
theorem m_220 : Cond.instanceMethod yX10_init ∈ W0 := w0_in (List.mem_append_right _ (List.mem_of_getElem? (i := 220) (by decide +kernel))) rfl
theorem m_221 : Cond.code yX10_init cX10_init 1 none ∈ W0 := w0_in (List.mem_append_right _ (List.mem_of_getElem? (i := 221) (by decide +kernel))) rfl
theorem m_258 : Cond.classLink RX11 45 RX5 ∈ W0 := w0_in (List.mem_append_right _ (List.mem_of_getElem? (i := 258) (by decide +kernel))) rfl
theorem m_259 : Cond.instantiable RX5 10 ∈ W0 := w0_in (List.mem_append_right _ (List.mem_of_getElem? (i := 259) (by decide +kernel))) rfl
theorem m_260 : Cond.methodLink RX11 47 yX5_init ∈ W0 := w0_in (List.mem_append_right _ (List.mem_of_getElem? (i := 260) (by decide +kernel))) rfl
theorem m_261 : Cond.instanceMethod yX5_init ∈ W0 := w0_in (List.mem_append_right _ (List.mem_of_getElem? (i := 261) (by decide +kernel))) rfl
theorem m_262 : Cond.code yX5_init cX5_init 3 none ∈ W0 := w0_in (List.mem_append_right _ (List.mem_of_getElem? (i := 262) (by decide +kernel))) rfl
theorem m_375 : Cond.classLink RX11 54 RX7 ∈ W0 := w0_in (List.mem_append_right _ (List.mem_of_getElem? (i := 375) (by decide +kernel))) rfl
theorem m_376 : Cond.instantiable RX7 3 ∈ W0 := w0_in (List.mem_append_right _ (List.mem_of_getElem? (i := 376) (by decide +kernel))) rfl
theorem m_377 : Cond.methodLink RX11 56 yX7_init ∈ W0 := w0_in (List.mem_append_right _ (List.mem_of_getElem? (i := 377) (by decide +kernel))) rfl
theorem m_378 : Cond.instanceMethod yX7_init ∈ W0 := w0_in (List.mem_append_right _ (List.mem_of_getElem? (i := 378) (by decide +kernel))) rfl
theorem m_379 : Cond.code yX7_init cX7_init 2 none ∈ W0 := w0_in (List.mem_append_right _ (List.mem_of_getElem? (i := 379) (by decide +kernel))) rfl
theorem m_391 : Cond.classLink RX11 63 RX8 ∈ W0 := w0_in (List.mem_append_right _ (List.mem_of_getElem? (i := 391) (by decide +kernel))) rfl
theorem m_392 : Cond.instantiable RX8 4 ∈ W0 := w0_in (List.mem_append_right _ (List.mem_of_getElem? (i := 392) (by decide +kernel))) rfl
theorem m_393 : Cond.methodLink RX11 65 yX8_init ∈ W0 := w0_in (List.mem_append_right _ (List.mem_of_getElem? (i := 393) (by decide +kernel))) rfl
theorem m_394 : Cond.instanceMethod yX8_init ∈ W0 := w0_in (List.mem_append_right _ (List.mem_of_getElem? (i := 394) (by decide +kernel))) rfl
theorem m_395 : Cond.code yX8_init cX8_init 3 none ∈ W0 := w0_in (List.mem_append_right _ (List.mem_of_getElem? (i := 395) (by decide +kernel))) rfl
theorem m_414 : Cond.classLink RX11 72 RX6 ∈ W0 := w0_in (List.mem_append_right _ (List.mem_of_getElem? (i := 414) (by decide +kernel))) rfl
theorem m_415 : Cond.instantiable RX6 8 ∈ W0 := w0_in (List.mem_append_right _ (List.mem_of_getElem? (i := 415) (by decide +kernel))) rfl
theorem m_416 : Cond.methodLink RX11 74 yX6_init ∈ W0 := w0_in (List.mem_append_right _ (List.mem_of_getElem? (i := 416) (by decide +kernel))) rfl
theorem m_417 : Cond.instanceMethod yX6_init ∈ W0 := w0_in (List.mem_append_right _ (List.mem_of_getElem? (i := 417) (by decide +kernel))) rfl
theorem m_418 : Cond.code yX6_init cX6_init 4 none ∈ W0 := w0_in (List.mem_append_right _ (List.mem_of_getElem? (i := 418) (by decide +kernel))) rfl
theorem m_448 : Cond.classLink RX11 81 RX0 ∈ W0 := w0_in (List.mem_append_right _ (List.mem_of_getElem? (i := 448) (by decide +kernel))) rfl
theorem m_449 : Cond.instantiable RX0 19 ∈ W0 := w0_in (List.mem_append_right _ (List.mem_of_getElem? (i := 449) (by decide +kernel))) rfl
theorem m_450 : Cond.methodLink RX11 83 yX0_init ∈ W0 := w0_in (List.mem_append_right _ (List.mem_of_getElem? (i := 450) (by decide +kernel))) rfl
theorem m_451 : Cond.instanceMethod yX0_init ∈ W0 := w0_in (List.mem_append_right _ (List.mem_of_getElem? (i := 451) (by decide +kernel))) rfl
theorem m_452 : Cond.code yX0_init cX0_init 4 none ∈ W0 := w0_in (List.mem_append_right _ (List.mem_of_getElem? (i := 452) (by decide +kernel))) rfl
theorem m_517 : Cond.classLink RX11 88 RX4 ∈ W0 := w0_in (List.mem_append_right _ (List.mem_of_getElem? (i := 517) (by decide +kernel))) rfl
theorem m_518 : Cond.instantiable RX4 17 ∈ W0 := w0_in (List.mem_append_right _ (List.mem_of_getElem? (i := 518) (by decide +kernel))) rfl
theorem m_519 : Cond.methodLink RX11 90 yX4_init ∈ W0 := w0_in (List.mem_append_right _ (List.mem_of_getElem? (i := 519) (by decide +kernel))) rfl
theorem m_520 : Cond.instanceMethod yX4_init ∈ W0 := w0_in (List.mem_append_right _ (List.mem_of_getElem? (i := 520) (by decide +kernel))) rfl
theorem m_521 : Cond.code yX4_init cX4_init 3 none ∈ W0 := w0_in (List.mem_append_right _ (List.mem_of_getElem? (i := 521) (by decide +kernel))) rfl
theorem m_581 : Cond.classLink RX11 101 RX3 ∈ W0 := w0_in (List.mem_append_right _ (List.mem_of_getElem? (i := 581) (by decide +kernel))) rfl
theorem m_582 : Cond.methodLink RX11 120 yX3_init ∈ W0 := w0_in (List.mem_append_right _ (List.mem_of_getElem? (i := 582) (by decide +kernel))) rfl
theorem m_583 : Cond.methodLink RX11 121 yJ7_fill_53178 ∈ W0 := w0_in (List.mem_append_right _ (List.mem_of_getElem? (i := 583) (by decide +kernel))) rfl
theorem m_585 : Cond.methodLink RX11 129 yX9_appendAll ∈ W0 := w0_in (List.mem_append_right _ (List.mem_of_getElem? (i := 585) (by decide +kernel))) rfl
theorem m_643 : Cond.methodLink RX11 137 yX2_read ∈ W0 := w0_in (List.mem_append_right _ (List.mem_of_getElem? (i := 643) (by decide +kernel))) rfl
theorem m_644 : Cond.instanceMethod yX2_read ∈ W0 := w0_in (List.mem_append_right _ (List.mem_of_getElem? (i := 644) (by decide +kernel))) rfl
theorem m_645 : Cond.selects RX2 yX2_read yX2_read ∈ W0 := w0_in (List.mem_append_right _ (List.mem_of_getElem? (i := 645) (by decide +kernel))) rfl
theorem m_646 : Cond.code yX2_read cX2_read 5 (some .boolean) ∈ W0 := w0_in (List.mem_append_right _ (List.mem_of_getElem? (i := 646) (by decide +kernel))) rfl
theorem m_790 : Cond.methodLink RX11 141 yX10_lay ∈ W0 := w0_in (List.mem_append_right _ (List.mem_of_getElem? (i := 790) (by decide +kernel))) rfl
theorem m_791 : Cond.instanceMethod yX10_lay ∈ W0 := w0_in (List.mem_append_right _ (List.mem_of_getElem? (i := 791) (by decide +kernel))) rfl
theorem m_792 : Cond.selects RX10 yX10_lay yX10_lay ∈ W0 := w0_in (List.mem_append_right _ (List.mem_of_getElem? (i := 792) (by decide +kernel))) rfl
theorem m_793 : Cond.code yX10_lay cX10_lay 4 none ∈ W0 := w0_in (List.mem_append_right _ (List.mem_of_getElem? (i := 793) (by decide +kernel))) rfl
theorem m_848 : Cond.methodLink RX11 144 yX9_clear ∈ W0 := w0_in (List.mem_append_right _ (List.mem_of_getElem? (i := 848) (by decide +kernel))) rfl
theorem m_852 : Cond.fieldLink RX11 14 (TX11 0).1 (TX11 0).2.1 (TX11 0).2.2.1 ∈ W0 := w0_in (List.mem_append_right _ (List.mem_of_getElem? (i := 852) (by decide +kernel))) rfl
theorem m_853 : Cond.fieldLink RX11 18 (TX11 1).1 (TX11 1).2.1 (TX11 1).2.2.1 ∈ W0 := w0_in (List.mem_append_right _ (List.mem_of_getElem? (i := 853) (by decide +kernel))) rfl
theorem m_854 : Cond.fieldLink RX11 24 (TX11 2).1 (TX11 2).2.1 (TX11 2).2.2.1 ∈ W0 := w0_in (List.mem_append_right _ (List.mem_of_getElem? (i := 854) (by decide +kernel))) rfl
theorem m_855 : Cond.fieldLink RX11 28 (TX11 3).1 (TX11 3).2.1 (TX11 3).2.2.1 ∈ W0 := w0_in (List.mem_append_right _ (List.mem_of_getElem? (i := 855) (by decide +kernel))) rfl
theorem m_856 : Cond.fieldLink RX11 34 (TX11 4).1 (TX11 4).2.1 (TX11 4).2.2.1 ∈ W0 := w0_in (List.mem_append_right _ (List.mem_of_getElem? (i := 856) (by decide +kernel))) rfl
theorem m_857 : Cond.fieldLink RX11 41 (TX11 5).1 (TX11 5).2.1 (TX11 5).2.2.1 ∈ W0 := w0_in (List.mem_append_right _ (List.mem_of_getElem? (i := 857) (by decide +kernel))) rfl
theorem m_858 : Cond.fieldLink RX11 50 (TX11 6).1 (TX11 6).2.1 (TX11 6).2.2.1 ∈ W0 := w0_in (List.mem_append_right _ (List.mem_of_getElem? (i := 858) (by decide +kernel))) rfl
theorem m_859 : Cond.fieldLink RX11 59 (TX11 7).1 (TX11 7).2.1 (TX11 7).2.2.1 ∈ W0 := w0_in (List.mem_append_right _ (List.mem_of_getElem? (i := 859) (by decide +kernel))) rfl
theorem m_860 : Cond.fieldLink RX11 68 (TX11 8).1 (TX11 8).2.1 (TX11 8).2.2.1 ∈ W0 := w0_in (List.mem_append_right _ (List.mem_of_getElem? (i := 860) (by decide +kernel))) rfl
theorem m_861 : Cond.fieldLink RX11 77 (TX11 9).1 (TX11 9).2.1 (TX11 9).2.2.1 ∈ W0 := w0_in (List.mem_append_right _ (List.mem_of_getElem? (i := 861) (by decide +kernel))) rfl
theorem m_862 : Cond.fieldLink RX11 84 (TX11 10).1 (TX11 10).2.1 (TX11 10).2.2.1 ∈ W0 := w0_in (List.mem_append_right _ (List.mem_of_getElem? (i := 862) (by decide +kernel))) rfl
theorem m_863 : Cond.fieldLink RX11 93 (TX11 11).1 (TX11 11).2.1 (TX11 11).2.2.1 ∈ W0 := w0_in (List.mem_append_right _ (List.mem_of_getElem? (i := 863) (by decide +kernel))) rfl
theorem m_864 : Cond.fieldLink RX11 97 (TX11 12).1 (TX11 12).2.1 (TX11 12).2.2.1 ∈ W0 := w0_in (List.mem_append_right _ (List.mem_of_getElem? (i := 864) (by decide +kernel))) rfl
theorem m_865 : Cond.fieldLink RX11 103 (TX11 13).1 (TX11 13).2.1 (TX11 13).2.2.1 ∈ W0 := w0_in (List.mem_append_right _ (List.mem_of_getElem? (i := 865) (by decide +kernel))) rfl
theorem m_866 : Cond.fieldLink RX11 107 (TX11 14).1 (TX11 14).2.1 (TX11 14).2.2.1 ∈ W0 := w0_in (List.mem_append_right _ (List.mem_of_getElem? (i := 866) (by decide +kernel))) rfl
theorem m_867 : Cond.fieldLink RX11 111 (TX11 15).1 (TX11 15).2.1 (TX11 15).2.2.1 ∈ W0 := w0_in (List.mem_append_right _ (List.mem_of_getElem? (i := 867) (by decide +kernel))) rfl
theorem m_868 : Cond.fieldLink RX11 114 (TX11 16).1 (TX11 16).2.1 (TX11 16).2.2.1 ∈ W0 := w0_in (List.mem_append_right _ (List.mem_of_getElem? (i := 868) (by decide +kernel))) rfl
theorem m_869 : Cond.fieldLink RX11 117 (TX11 17).1 (TX11 17).2.1 (TX11 17).2.2.1 ∈ W0 := w0_in (List.mem_append_right _ (List.mem_of_getElem? (i := 869) (by decide +kernel))) rfl
theorem i_X11 : ∀ w ∈ u_ws RX11 TX11 18, w ∈ W0 := by
  intro w hw
  exact w0_in (List.mem_append_right _ ((by decide +kernel : ∀ w ∈ u_ws RX11 TX11 18, w ∈ tables_1) w hw)) ((by decide +kernel : ∀ w ∈ u_ws RX11 TX11 18, goodWord w = true) w hw)
theorem dv_X0 : ∀ j, j < 19 → defaultValue (tyX0 j) = dV ((tl 0).getD j 2) := by decide +kernel
theorem dv_X1 : ∀ j, j < 21 → defaultValue (tyX1 j) = dV ((tl 1).getD j 2) := by decide +kernel
theorem dv_X2 : ∀ j, j < 7 → defaultValue (tyX2 j) = dV ((tl 2).getD j 2) := by decide +kernel
theorem dv_X4 : ∀ j, j < 17 → defaultValue (tyX4 j) = dV ((tl 4).getD j 2) := by decide +kernel
theorem dv_X5 : ∀ j, j < 10 → defaultValue (tyX5 j) = dV ((tl 5).getD j 2) := by decide +kernel
theorem dv_X6 : ∀ j, j < 8 → defaultValue (tyX6 j) = dV ((tl 6).getD j 2) := by decide +kernel
theorem dv_X7 : ∀ j, j < 3 → defaultValue (tyX7 j) = dV ((tl 7).getD j 2) := by decide +kernel
theorem dv_X8 : ∀ j, j < 4 → defaultValue (tyX8 j) = dV ((tl 8).getD j 2) := by decide +kernel
theorem dv_X10 : ∀ j, j < 9 → defaultValue (tyX10 j) = dV ((tl 10).getD j 2) := by decide +kernel
section
variable {p : Program} {l : Launch} {e : Env} {R : Room} {s : State} {m : MethodId} {args : Array Value} {below : List Frame} {meth : Method} {c : Code} {H : Heap} {locs : List Loc} {cells slots : Nat} {Q : State → Prop}
variable {cc : ByteArray} {pc : Nat} {ls : Array Slot} {rest : List Value} {X : Ec} {h h1 : Hp} {nL : Nat} {rt : Option FieldType} {mn : String}
theorem gf_X11_14 {a r : Nat} (C : Cx X p s m args meth c RX11 cc nL rt mn) (hW : Wx X h H) (ha : hK h a = 11) (hr : hR h a 0 = some r) (hdg : decode cc pc = .ok (.getfield 14, 3)) (kk : hK h r = 9 → W p l e R s m args below meth c H locs cells slots Q (F0 m (pc + 3) ls (.ref r :: rest))) : W p l e R s m args below meth c H locs cells slots Q (F0 m pc ls (.ref a :: rest)) :=
  y_getr C hW ha i_X11 (by decide) rfl (by decide) m_852 rfl rfl hr hdg kk
theorem gf_X11_41 {a r : Nat} (C : Cx X p s m args meth c RX11 cc nL rt mn) (hW : Wx X h H) (ha : hK h a = 11) (hr : hR h a 5 = some r) (hdg : decode cc pc = .ok (.getfield 41, 3)) (kk : hK h r = 10 → W p l e R s m args below meth c H locs cells slots Q (F0 m (pc + 3) ls (.ref r :: rest))) : W p l e R s m args below meth c H locs cells slots Q (F0 m pc ls (.ref a :: rest)) :=
  y_getr C hW ha i_X11 (by decide) rfl (by decide) m_857 rfl rfl hr hdg kk
theorem gf_X11_24 {a r : Nat} (C : Cx X p s m args meth c RX11 cc nL rt mn) (hW : Wx X h H) (ha : hK h a = 11) (hr : hR h a 2 = some r) (hdg : decode cc pc = .ok (.getfield 24, 3)) (kk : hK h r = 1 → W p l e R s m args below meth c H locs cells slots Q (F0 m (pc + 3) ls (.ref r :: rest))) : W p l e R s m args below meth c H locs cells slots Q (F0 m pc ls (.ref a :: rest)) :=
  y_getr C hW ha i_X11 (by decide) rfl (by decide) m_854 rfl rfl hr hdg kk
theorem gf_X11_34 {a r : Nat} (C : Cx X p s m args meth c RX11 cc nL rt mn) (hW : Wx X h H) (ha : hK h a = 11) (hr : hR h a 4 = some r) (hdg : decode cc pc = .ok (.getfield 34, 3)) (kk : hK h r = 2 → W p l e R s m args below meth c H locs cells slots Q (F0 m (pc + 3) ls (.ref r :: rest))) : W p l e R s m args below meth c H locs cells slots Q (F0 m pc ls (.ref a :: rest)) :=
  y_getr C hW ha i_X11 (by decide) rfl (by decide) m_856 rfl rfl hr hdg kk
theorem gf_X11_117 {a r : Nat} (C : Cx X p s m args meth c RX11 cc nL rt mn) (hW : Wx X h H) (ha : hK h a = 11) (hr : hR h a 17 = some r) (hdg : decode cc pc = .ok (.getfield 117, 3)) (kk : hK h r = 17 → W p l e R s m args below meth c H locs cells slots Q (F0 m (pc + 3) ls (.ref r :: rest))) : W p l e R s m args below meth c H locs cells slots Q (F0 m pc ls (.ref a :: rest)) :=
  y_getr C hW ha i_X11 (by decide) rfl (by decide) m_869 rfl rfl hr hdg kk
theorem gf_X11_103 {a r : Nat} (C : Cx X p s m args meth c RX11 cc nL rt mn) (hW : Wx X h H) (ha : hK h a = 11) (hr : hR h a 13 = some r) (hdg : decode cc pc = .ok (.getfield 103, 3)) (kk : hK h r = 20 → W p l e R s m args below meth c H locs cells slots Q (F0 m (pc + 3) ls (.ref r :: rest))) : W p l e R s m args below meth c H locs cells slots Q (F0 m pc ls (.ref a :: rest)) :=
  y_getr C hW ha i_X11 (by decide) rfl (by decide) m_865 rfl rfl hr hdg kk
theorem pf_X11_117 {a r : Nat} (C : Cx X p s m args meth c RX11 cc nL rt mn) (hW : Wx X h H) (hZ : va_S (aA (eB X)) s.heap H locs) (hmn : mn = "<init>") (ha : hK h a = 11) (hr : hK h r = 17) (eh : h1 = wR h a 17 (some r)) (hdg : decode cc pc = .ok (.putfield 117, 3)) (kk : ∀ (H1 : Heap) (locs1 : List Loc), Wx X h1 H1 → Km h h1 → va_S (aA (eB X)) s.heap H1 locs1 → W p l e R s m args below meth c H1 locs1 cells slots Q (F0 m (pc + 3) ls rest)) : W p l e R s m args below meth c H locs cells slots Q (F0 m pc ls (.ref r :: .ref a :: rest)) :=
  y_putrF (ty := .array .int) C hW hZ ha i_X11 tyX11 tyX11_ok nmX11 (by decide) rfl rfl (by decide) m_869 rfl hmn rfl (by decide +kernel) rfl rfl rfl hr rfl (by decide) eh hdg kk
theorem pf_X11_114 {a r : Nat} (C : Cx X p s m args meth c RX11 cc nL rt mn) (hW : Wx X h H) (hZ : va_S (aA (eB X)) s.heap H locs) (hmn : mn = "<init>") (ha : hK h a = 11) (hr : hK h r = 17) (eh : h1 = wR h a 16 (some r)) (hdg : decode cc pc = .ok (.putfield 114, 3)) (kk : ∀ (H1 : Heap) (locs1 : List Loc), Wx X h1 H1 → Km h h1 → va_S (aA (eB X)) s.heap H1 locs1 → W p l e R s m args below meth c H1 locs1 cells slots Q (F0 m (pc + 3) ls rest)) : W p l e R s m args below meth c H locs cells slots Q (F0 m pc ls (.ref r :: .ref a :: rest)) :=
  y_putrF (ty := .array .int) C hW hZ ha i_X11 tyX11 tyX11_ok nmX11 (by decide) rfl rfl (by decide) m_868 rfl hmn rfl (by decide +kernel) rfl rfl rfl hr rfl (by decide) eh hdg kk
theorem pf_X11_111 {a r : Nat} (C : Cx X p s m args meth c RX11 cc nL rt mn) (hW : Wx X h H) (hZ : va_S (aA (eB X)) s.heap H locs) (hmn : mn = "<init>") (ha : hK h a = 11) (hr : hK h r = 20) (eh : h1 = wR h a 15 (some r)) (hdg : decode cc pc = .ok (.putfield 111, 3)) (kk : ∀ (H1 : Heap) (locs1 : List Loc), Wx X h1 H1 → Km h h1 → va_S (aA (eB X)) s.heap H1 locs1 → W p l e R s m args below meth c H1 locs1 cells slots Q (F0 m (pc + 3) ls rest)) : W p l e R s m args below meth c H locs cells slots Q (F0 m pc ls (.ref r :: .ref a :: rest)) :=
  y_putrF (ty := .array (.object "GameRules$Position")) C hW hZ ha i_X11 tyX11 tyX11_ok nmX11 (by decide) rfl rfl (by decide) m_867 rfl hmn rfl (by decide +kernel) rfl rfl rfl hr rfl (by decide) eh hdg kk
theorem pf_X11_107 {a r : Nat} (C : Cx X p s m args meth c RX11 cc nL rt mn) (hW : Wx X h H) (hZ : va_S (aA (eB X)) s.heap H locs) (hmn : mn = "<init>") (ha : hK h a = 11) (hr : hK h r = 19) (eh : h1 = wR h a 14 (some r)) (hdg : decode cc pc = .ok (.putfield 107, 3)) (kk : ∀ (H1 : Heap) (locs1 : List Loc), Wx X h1 H1 → Km h h1 → va_S (aA (eB X)) s.heap H1 locs1 → W p l e R s m args below meth c H1 locs1 cells slots Q (F0 m (pc + 3) ls rest)) : W p l e R s m args below meth c H locs cells slots Q (F0 m pc ls (.ref r :: .ref a :: rest)) :=
  y_putrF (ty := .array .boolean) C hW hZ ha i_X11 tyX11 tyX11_ok nmX11 (by decide) rfl rfl (by decide) m_866 rfl hmn rfl (by decide +kernel) rfl rfl rfl hr rfl (by decide) eh hdg kk
theorem pf_X11_103 {a r : Nat} (C : Cx X p s m args meth c RX11 cc nL rt mn) (hW : Wx X h H) (hZ : va_S (aA (eB X)) s.heap H locs) (hmn : mn = "<init>") (ha : hK h a = 11) (hr : hK h r = 20) (eh : h1 = wR h a 13 (some r)) (hdg : decode cc pc = .ok (.putfield 103, 3)) (kk : ∀ (H1 : Heap) (locs1 : List Loc), Wx X h1 H1 → Km h h1 → va_S (aA (eB X)) s.heap H1 locs1 → W p l e R s m args below meth c H1 locs1 cells slots Q (F0 m (pc + 3) ls rest)) : W p l e R s m args below meth c H locs cells slots Q (F0 m pc ls (.ref r :: .ref a :: rest)) :=
  y_putrF (ty := .array (.object "GameRules$Position")) C hW hZ ha i_X11 tyX11 tyX11_ok nmX11 (by decide) rfl rfl (by decide) m_865 rfl hmn rfl (by decide +kernel) rfl rfl rfl hr rfl (by decide) eh hdg kk
theorem pf_X11_97 {a r : Nat} (C : Cx X p s m args meth c RX11 cc nL rt mn) (hW : Wx X h H) (hZ : va_S (aA (eB X)) s.heap H locs) (hmn : mn = "<init>") (ha : hK h a = 11) (hr : hK h r = 17) (eh : h1 = wR h a 12 (some r)) (hdg : decode cc pc = .ok (.putfield 97, 3)) (kk : ∀ (H1 : Heap) (locs1 : List Loc), Wx X h1 H1 → Km h h1 → va_S (aA (eB X)) s.heap H1 locs1 → W p l e R s m args below meth c H1 locs1 cells slots Q (F0 m (pc + 3) ls rest)) : W p l e R s m args below meth c H locs cells slots Q (F0 m pc ls (.ref r :: .ref a :: rest)) :=
  y_putrF (ty := .array .int) C hW hZ ha i_X11 tyX11 tyX11_ok nmX11 (by decide) rfl rfl (by decide) m_864 rfl hmn rfl (by decide +kernel) rfl rfl rfl hr rfl (by decide) eh hdg kk
theorem pf_X11_93 {a r : Nat} (C : Cx X p s m args meth c RX11 cc nL rt mn) (hW : Wx X h H) (hZ : va_S (aA (eB X)) s.heap H locs) (hmn : mn = "<init>") (ha : hK h a = 11) (hr : hK h r = 4) (eh : h1 = wR h a 11 (some r)) (hdg : decode cc pc = .ok (.putfield 93, 3)) (kk : ∀ (H1 : Heap) (locs1 : List Loc), Wx X h1 H1 → Km h h1 → va_S (aA (eB X)) s.heap H1 locs1 → W p l e R s m args below meth c H1 locs1 cells slots Q (F0 m (pc + 3) ls rest)) : W p l e R s m args below meth c H locs cells slots Q (F0 m pc ls (.ref r :: .ref a :: rest)) :=
  y_putrF (ty := .object "GameRules$Problems") C hW hZ ha i_X11 tyX11 tyX11_ok nmX11 (by decide) rfl rfl (by decide) m_863 rfl hmn rfl (by decide +kernel) rfl rfl rfl hr rfl (by decide) eh hdg kk
theorem gf_X11_50 {a r : Nat} (C : Cx X p s m args meth c RX11 cc nL rt mn) (hW : Wx X h H) (ha : hK h a = 11) (hr : hR h a 6 = some r) (hdg : decode cc pc = .ok (.getfield 50, 3)) (kk : hK h r = 5 → W p l e R s m args below meth c H locs cells slots Q (F0 m (pc + 3) ls (.ref r :: rest))) : W p l e R s m args below meth c H locs cells slots Q (F0 m pc ls (.ref a :: rest)) :=
  y_getr C hW ha i_X11 (by decide) rfl (by decide) m_858 rfl rfl hr hdg kk
theorem pf_X11_84 {a r : Nat} (C : Cx X p s m args meth c RX11 cc nL rt mn) (hW : Wx X h H) (hZ : va_S (aA (eB X)) s.heap H locs) (hmn : mn = "<init>") (ha : hK h a = 11) (hr : hK h r = 0) (eh : h1 = wR h a 10 (some r)) (hdg : decode cc pc = .ok (.putfield 84, 3)) (kk : ∀ (H1 : Heap) (locs1 : List Loc), Wx X h1 H1 → Km h h1 → va_S (aA (eB X)) s.heap H1 locs1 → W p l e R s m args below meth c H1 locs1 cells slots Q (F0 m (pc + 3) ls rest)) : W p l e R s m args below meth c H locs cells slots Q (F0 m pc ls (.ref r :: .ref a :: rest)) :=
  y_putrF (ty := .object "GameRules$Endings") C hW hZ ha i_X11 tyX11 tyX11_ok nmX11 (by decide) rfl rfl (by decide) m_862 rfl hmn rfl (by decide +kernel) rfl rfl rfl hr rfl (by decide) eh hdg kk
theorem pf_X11_77 {a r : Nat} (C : Cx X p s m args meth c RX11 cc nL rt mn) (hW : Wx X h H) (hZ : va_S (aA (eB X)) s.heap H locs) (hmn : mn = "<init>") (ha : hK h a = 11) (hr : hK h r = 6) (eh : h1 = wR h a 9 (some r)) (hdg : decode cc pc = .ok (.putfield 77, 3)) (kk : ∀ (H1 : Heap) (locs1 : List Loc), Wx X h1 H1 → Km h h1 → va_S (aA (eB X)) s.heap H1 locs1 → W p l e R s m args below meth c H1 locs1 cells slots Q (F0 m (pc + 3) ls rest)) : W p l e R s m args below meth c H locs cells slots Q (F0 m pc ls (.ref r :: .ref a :: rest)) :=
  y_putrF (ty := .object "GameRules$Retro") C hW hZ ha i_X11 tyX11 tyX11_ok nmX11 (by decide) rfl rfl (by decide) m_861 rfl hmn rfl (by decide +kernel) rfl rfl rfl hr rfl (by decide) eh hdg kk
theorem pf_X11_68 {a r : Nat} (C : Cx X p s m args meth c RX11 cc nL rt mn) (hW : Wx X h H) (hZ : va_S (aA (eB X)) s.heap H locs) (hmn : mn = "<init>") (ha : hK h a = 11) (hr : hK h r = 8) (eh : h1 = wR h a 8 (some r)) (hdg : decode cc pc = .ok (.putfield 68, 3)) (kk : ∀ (H1 : Heap) (locs1 : List Loc), Wx X h1 H1 → Km h h1 → va_S (aA (eB X)) s.heap H1 locs1 → W p l e R s m args below meth c H1 locs1 cells slots Q (F0 m (pc + 3) ls rest)) : W p l e R s m args below meth c H locs cells slots Q (F0 m pc ls (.ref r :: .ref a :: rest)) :=
  y_putrF (ty := .object "GameRules$Speaker") C hW hZ ha i_X11 tyX11 tyX11_ok nmX11 (by decide) rfl rfl (by decide) m_860 rfl hmn rfl (by decide +kernel) rfl rfl rfl hr rfl (by decide) eh hdg kk
theorem pf_X11_59 {a r : Nat} (C : Cx X p s m args meth c RX11 cc nL rt mn) (hW : Wx X h H) (hZ : va_S (aA (eB X)) s.heap H locs) (hmn : mn = "<init>") (ha : hK h a = 11) (hr : hK h r = 7) (eh : h1 = wR h a 7 (some r)) (hdg : decode cc pc = .ok (.putfield 59, 3)) (kk : ∀ (H1 : Heap) (locs1 : List Loc), Wx X h1 H1 → Km h h1 → va_S (aA (eB X)) s.heap H1 locs1 → W p l e R s m args below meth c H1 locs1 cells slots Q (F0 m (pc + 3) ls rest)) : W p l e R s m args below meth c H locs cells slots Q (F0 m pc ls (.ref r :: .ref a :: rest)) :=
  y_putrF (ty := .object "GameRules$Scribe") C hW hZ ha i_X11 tyX11 tyX11_ok nmX11 (by decide) rfl rfl (by decide) m_859 rfl hmn rfl (by decide +kernel) rfl rfl rfl hr rfl (by decide) eh hdg kk
theorem pf_X11_50 {a r : Nat} (C : Cx X p s m args meth c RX11 cc nL rt mn) (hW : Wx X h H) (hZ : va_S (aA (eB X)) s.heap H locs) (hmn : mn = "<init>") (ha : hK h a = 11) (hr : hK h r = 5) (eh : h1 = wR h a 6 (some r)) (hdg : decode cc pc = .ok (.putfield 50, 3)) (kk : ∀ (H1 : Heap) (locs1 : List Loc), Wx X h1 H1 → Km h h1 → va_S (aA (eB X)) s.heap H1 locs1 → W p l e R s m args below meth c H1 locs1 cells slots Q (F0 m (pc + 3) ls rest)) : W p l e R s m args below meth c H locs cells slots Q (F0 m pc ls (.ref r :: .ref a :: rest)) :=
  y_putrF (ty := .object "GameRules$Referee") C hW hZ ha i_X11 tyX11 tyX11_ok nmX11 (by decide) rfl rfl (by decide) m_858 rfl hmn rfl (by decide +kernel) rfl rfl rfl hr rfl (by decide) eh hdg kk
theorem pf_X11_41 {a r : Nat} (C : Cx X p s m args meth c RX11 cc nL rt mn) (hW : Wx X h H) (hZ : va_S (aA (eB X)) s.heap H locs) (hmn : mn = "<init>") (ha : hK h a = 11) (hr : hK h r = 10) (eh : h1 = wR h a 5 (some r)) (hdg : decode cc pc = .ok (.putfield 41, 3)) (kk : ∀ (H1 : Heap) (locs1 : List Loc), Wx X h1 H1 → Km h h1 → va_S (aA (eB X)) s.heap H1 locs1 → W p l e R s m args below meth c H1 locs1 cells slots Q (F0 m (pc + 3) ls rest)) : W p l e R s m args below meth c H locs cells slots Q (F0 m pc ls (.ref r :: .ref a :: rest)) :=
  y_putrF (ty := .object "GameRules$Ways") C hW hZ ha i_X11 tyX11 tyX11_ok nmX11 (by decide) rfl rfl (by decide) m_857 rfl hmn rfl (by decide +kernel) rfl rfl rfl hr rfl (by decide) eh hdg kk
theorem pf_X11_34 {a r : Nat} (C : Cx X p s m args meth c RX11 cc nL rt mn) (hW : Wx X h H) (hZ : va_S (aA (eB X)) s.heap H locs) (hmn : mn = "<init>") (ha : hK h a = 11) (hr : hK h r = 2) (eh : h1 = wR h a 4 (some r)) (hdg : decode cc pc = .ok (.putfield 34, 3)) (kk : ∀ (H1 : Heap) (locs1 : List Loc), Wx X h1 H1 → Km h h1 → va_S (aA (eB X)) s.heap H1 locs1 → W p l e R s m args below meth c H1 locs1 cells slots Q (F0 m (pc + 3) ls rest)) : W p l e R s m args below meth c H locs cells slots Q (F0 m pc ls (.ref r :: .ref a :: rest)) :=
  y_putrF (ty := .object "GameRules$LawReader") C hW hZ ha i_X11 tyX11 tyX11_ok nmX11 (by decide) rfl rfl (by decide) m_856 rfl hmn rfl (by decide +kernel) rfl rfl rfl hr rfl (by decide) eh hdg kk
theorem pf_X11_28 {a r : Nat} (C : Cx X p s m args meth c RX11 cc nL rt mn) (hW : Wx X h H) (hZ : va_S (aA (eB X)) s.heap H locs) (hmn : mn = "<init>") (ha : hK h a = 11) (hr : hK h r = 1) (eh : h1 = wR h a 3 (some r)) (hdg : decode cc pc = .ok (.putfield 28, 3)) (kk : ∀ (H1 : Heap) (locs1 : List Loc), Wx X h1 H1 → Km h h1 → va_S (aA (eB X)) s.heap H1 locs1 → W p l e R s m args below meth c H1 locs1 cells slots Q (F0 m (pc + 3) ls rest)) : W p l e R s m args below meth c H locs cells slots Q (F0 m pc ls (.ref r :: .ref a :: rest)) :=
  y_putrF (ty := .object "GameRules$Law") C hW hZ ha i_X11 tyX11 tyX11_ok nmX11 (by decide) rfl rfl (by decide) m_855 rfl hmn rfl (by decide +kernel) rfl rfl rfl hr rfl (by decide) eh hdg kk
theorem pf_X11_24 {a r : Nat} (C : Cx X p s m args meth c RX11 cc nL rt mn) (hW : Wx X h H) (hZ : va_S (aA (eB X)) s.heap H locs) (hmn : mn = "<init>") (ha : hK h a = 11) (hr : hK h r = 1) (eh : h1 = wR h a 2 (some r)) (hdg : decode cc pc = .ok (.putfield 24, 3)) (kk : ∀ (H1 : Heap) (locs1 : List Loc), Wx X h1 H1 → Km h h1 → va_S (aA (eB X)) s.heap H1 locs1 → W p l e R s m args below meth c H1 locs1 cells slots Q (F0 m (pc + 3) ls rest)) : W p l e R s m args below meth c H locs cells slots Q (F0 m pc ls (.ref r :: .ref a :: rest)) :=
  y_putrF (ty := .object "GameRules$Law") C hW hZ ha i_X11 tyX11 tyX11_ok nmX11 (by decide) rfl rfl (by decide) m_854 rfl hmn rfl (by decide +kernel) rfl rfl rfl hr rfl (by decide) eh hdg kk
theorem pf_X11_18 {a r : Nat} (C : Cx X p s m args meth c RX11 cc nL rt mn) (hW : Wx X h H) (hZ : va_S (aA (eB X)) s.heap H locs) (hmn : mn = "<init>") (ha : hK h a = 11) (hr : hK h r = 9) (eh : h1 = wR h a 1 (some r)) (hdg : decode cc pc = .ok (.putfield 18, 3)) (kk : ∀ (H1 : Heap) (locs1 : List Loc), Wx X h1 H1 → Km h h1 → va_S (aA (eB X)) s.heap H1 locs1 → W p l e R s m args below meth c H1 locs1 cells slots Q (F0 m (pc + 3) ls rest)) : W p l e R s m args below meth c H locs cells slots Q (F0 m pc ls (.ref r :: .ref a :: rest)) :=
  y_putrF (ty := .object "GameRules$Text") C hW hZ ha i_X11 tyX11 tyX11_ok nmX11 (by decide) rfl rfl (by decide) m_853 rfl hmn rfl (by decide +kernel) rfl rfl rfl hr rfl (by decide) eh hdg kk
theorem pf_X11_14 {a r : Nat} (C : Cx X p s m args meth c RX11 cc nL rt mn) (hW : Wx X h H) (hZ : va_S (aA (eB X)) s.heap H locs) (hmn : mn = "<init>") (ha : hK h a = 11) (hr : hK h r = 9) (eh : h1 = wR h a 0 (some r)) (hdg : decode cc pc = .ok (.putfield 14, 3)) (kk : ∀ (H1 : Heap) (locs1 : List Loc), Wx X h1 H1 → Km h h1 → va_S (aA (eB X)) s.heap H1 locs1 → W p l e R s m args below meth c H1 locs1 cells slots Q (F0 m (pc + 3) ls rest)) : W p l e R s m args below meth c H locs cells slots Q (F0 m pc ls (.ref r :: .ref a :: rest)) :=
  y_putrF (ty := .object "GameRules$Text") C hW hZ ha i_X11 tyX11 tyX11_ok nmX11 (by decide) rfl rfl (by decide) m_852 rfl hmn rfl (by decide +kernel) rfl rfl rfl hr rfl (by decide) eh hdg kk
end
theorem cw_X11_144 : cwd RX11 144 yX9_clear cX9_clear 1 none false 0 := ⟨m_851, m_848, m_2, ⟨m_849, m_850⟩, by decide, by decide, by decide +kernel⟩
theorem cw_X11_141 : cwd RX11 141 yX10_lay cX10_lay 4 none false 1 := ⟨m_793, m_790, m_6, ⟨m_791, m_792⟩, by decide, by decide, by decide +kernel⟩
theorem cw_X11_137 : cwd RX11 137 yX2_read cX2_read 5 (some .boolean) false 2 := ⟨m_646, m_643, m_5, ⟨m_644, m_645⟩, by decide, by decide, by decide +kernel⟩
theorem cw_X11_129 : cwd RX11 129 yX9_appendAll cX9_appendAll 3 none false 1 := ⟨m_588, m_585, m_2, ⟨m_586, m_587⟩, by decide, by decide, by decide +kernel⟩
theorem ci_X11_120 : cwi RX11 120 yX3_init cX3_init 1 0 := ⟨m_268, m_582, m_8, m_267, rfl, by decide, by decide, by decide +kernel⟩
theorem cw_X11_121 : cwd RX11 121 yJ7_fill_53178 cJ7_fill_53178 4 none true 2 := ⟨m_275, m_583, m_9, m_274, by decide, by decide, by decide +kernel⟩
theorem ci_X11_90 : cwi RX11 90 yX4_init cX4_init 3 1 := ⟨m_521, m_519, m_14, m_520, rfl, by decide, by decide, by decide +kernel⟩
theorem ci_X11_83 : cwi RX11 83 yX0_init cX0_init 4 3 := ⟨m_452, m_450, m_13, m_451, rfl, by decide, by decide, by decide +kernel⟩
theorem ci_X11_74 : cwi RX11 74 yX6_init cX6_init 4 3 := ⟨m_418, m_416, m_12, m_417, rfl, by decide, by decide, by decide +kernel⟩
theorem ci_X11_65 : cwi RX11 65 yX8_init cX8_init 3 2 := ⟨m_395, m_393, m_11, m_394, rfl, by decide, by decide, by decide +kernel⟩
theorem ci_X11_56 : cwi RX11 56 yX7_init cX7_init 2 1 := ⟨m_379, m_377, m_10, m_378, rfl, by decide, by decide, by decide +kernel⟩
theorem ci_X11_47 : cwi RX11 47 yX5_init cX5_init 3 2 := ⟨m_262, m_260, m_7, m_261, rfl, by decide, by decide, by decide +kernel⟩
theorem cj_X11_40 : cwin RX11 40 "GameRules" yX10_init cX10_init 1 0 := ⟨m_221, n_219, m_6, m_220, rfl, by decide, by decide, by decide +kernel⟩
theorem cj_X11_33 : cwin RX11 33 "GameRules" yX2_init cX2_init 1 0 := ⟨m_193, n_191, m_5, m_192, rfl, by decide, by decide, by decide +kernel⟩
theorem cj_X11_23 : cwin RX11 23 "GameRules" yX1_init cX1_init 1 0 := ⟨m_59, n_57, m_4, m_58, rfl, by decide, by decide, by decide +kernel⟩
theorem ci_X11_11 : cwi RX11 11 yX9_init cX9_init 2 1 := ⟨m_38, m_36, m_2, m_37, rfl, by decide, by decide, by decide +kernel⟩
theorem dX11_init_0 : decode cX11_init 0 = .ok (.aload_n 0, 1) := by decide +kernel
theorem dX11_init_1 : decode cX11_init 1 = .ok (.invokespecial 3, 3) := by decide +kernel
theorem dX11_init_4 : decode cX11_init 4 = .ok (.aload_n 0, 1) := by decide +kernel
theorem dX11_init_5 : decode cX11_init 5 = .ok (.new 9, 3) := by decide +kernel
theorem dX11_init_8 : decode cX11_init 8 = .ok (.dup, 1) := by decide +kernel
theorem dX11_init_9 : decode cX11_init 9 = .ok (.sipush 1200, 3) := by decide +kernel
theorem dX11_init_12 : decode cX11_init 12 = .ok (.invokespecial 11, 3) := by decide +kernel
theorem dX11_init_15 : decode cX11_init 15 = .ok (.putfield 14, 3) := by decide +kernel
theorem dX11_init_18 : decode cX11_init 18 = .ok (.aload_n 0, 1) := by decide +kernel
theorem dX11_init_19 : decode cX11_init 19 = .ok (.new 9, 3) := by decide +kernel
theorem dX11_init_22 : decode cX11_init 22 = .ok (.dup, 1) := by decide +kernel
theorem dX11_init_23 : decode cX11_init 23 = .ok (.sipush 512, 3) := by decide +kernel
theorem dX11_init_26 : decode cX11_init 26 = .ok (.invokespecial 11, 3) := by decide +kernel
theorem dX11_init_29 : decode cX11_init 29 = .ok (.putfield 18, 3) := by decide +kernel
theorem dX11_init_32 : decode cX11_init 32 = .ok (.aload_n 0, 1) := by decide +kernel
theorem dX11_init_33 : decode cX11_init 33 = .ok (.new 21, 3) := by decide +kernel
theorem dX11_init_36 : decode cX11_init 36 = .ok (.dup, 1) := by decide +kernel
theorem dX11_init_37 : decode cX11_init 37 = .ok (.invokespecial 23, 3) := by decide +kernel
theorem dX11_init_40 : decode cX11_init 40 = .ok (.putfield 24, 3) := by decide +kernel
theorem dX11_init_43 : decode cX11_init 43 = .ok (.aload_n 0, 1) := by decide +kernel
theorem dX11_init_44 : decode cX11_init 44 = .ok (.new 21, 3) := by decide +kernel
theorem dX11_init_47 : decode cX11_init 47 = .ok (.dup, 1) := by decide +kernel
theorem dX11_init_48 : decode cX11_init 48 = .ok (.invokespecial 23, 3) := by decide +kernel
theorem dX11_init_51 : decode cX11_init 51 = .ok (.putfield 28, 3) := by decide +kernel
theorem dX11_init_54 : decode cX11_init 54 = .ok (.aload_n 0, 1) := by decide +kernel
theorem dX11_init_55 : decode cX11_init 55 = .ok (.new 31, 3) := by decide +kernel
theorem dX11_init_58 : decode cX11_init 58 = .ok (.dup, 1) := by decide +kernel
theorem dX11_init_59 : decode cX11_init 59 = .ok (.invokespecial 33, 3) := by decide +kernel
theorem dX11_init_62 : decode cX11_init 62 = .ok (.putfield 34, 3) := by decide +kernel
theorem dX11_init_65 : decode cX11_init 65 = .ok (.aload_n 0, 1) := by decide +kernel
theorem dX11_init_66 : decode cX11_init 66 = .ok (.new 38, 3) := by decide +kernel
theorem dX11_init_69 : decode cX11_init 69 = .ok (.dup, 1) := by decide +kernel
theorem dX11_init_70 : decode cX11_init 70 = .ok (.invokespecial 40, 3) := by decide +kernel
theorem dX11_init_73 : decode cX11_init 73 = .ok (.putfield 41, 3) := by decide +kernel
theorem dX11_init_76 : decode cX11_init 76 = .ok (.aload_n 0, 1) := by decide +kernel
theorem dX11_init_77 : decode cX11_init 77 = .ok (.new 45, 3) := by decide +kernel
theorem dX11_init_80 : decode cX11_init 80 = .ok (.dup, 1) := by decide +kernel
theorem dX11_init_81 : decode cX11_init 81 = .ok (.aload_n 0, 1) := by decide +kernel
theorem dX11_init_82 : decode cX11_init 82 = .ok (.getfield 24, 3) := by decide +kernel
theorem dX11_init_85 : decode cX11_init 85 = .ok (.aload_n 0, 1) := by decide +kernel
theorem dX11_init_86 : decode cX11_init 86 = .ok (.getfield 41, 3) := by decide +kernel
theorem dX11_init_89 : decode cX11_init 89 = .ok (.invokespecial 47, 3) := by decide +kernel
theorem dX11_init_92 : decode cX11_init 92 = .ok (.putfield 50, 3) := by decide +kernel
theorem dX11_init_95 : decode cX11_init 95 = .ok (.aload_n 0, 1) := by decide +kernel
theorem dX11_init_96 : decode cX11_init 96 = .ok (.new 54, 3) := by decide +kernel
theorem dX11_init_99 : decode cX11_init 99 = .ok (.dup, 1) := by decide +kernel
theorem dX11_init_100 : decode cX11_init 100 = .ok (.aload_n 0, 1) := by decide +kernel
theorem dX11_init_101 : decode cX11_init 101 = .ok (.getfield 24, 3) := by decide +kernel
theorem dX11_init_104 : decode cX11_init 104 = .ok (.invokespecial 56, 3) := by decide +kernel
theorem dX11_init_107 : decode cX11_init 107 = .ok (.putfield 59, 3) := by decide +kernel
theorem dX11_init_110 : decode cX11_init 110 = .ok (.aload_n 0, 1) := by decide +kernel
theorem dX11_init_111 : decode cX11_init 111 = .ok (.new 63, 3) := by decide +kernel
theorem dX11_init_114 : decode cX11_init 114 = .ok (.dup, 1) := by decide +kernel
theorem dX11_init_115 : decode cX11_init 115 = .ok (.aload_n 0, 1) := by decide +kernel
theorem dX11_init_116 : decode cX11_init 116 = .ok (.getfield 24, 3) := by decide +kernel
theorem dX11_init_119 : decode cX11_init 119 = .ok (.aload_n 0, 1) := by decide +kernel
theorem dX11_init_120 : decode cX11_init 120 = .ok (.getfield 50, 3) := by decide +kernel
theorem dX11_init_123 : decode cX11_init 123 = .ok (.invokespecial 65, 3) := by decide +kernel
theorem dX11_init_126 : decode cX11_init 126 = .ok (.putfield 68, 3) := by decide +kernel
theorem dX11_init_129 : decode cX11_init 129 = .ok (.aload_n 0, 1) := by decide +kernel
theorem dX11_init_130 : decode cX11_init 130 = .ok (.new 72, 3) := by decide +kernel
theorem dX11_init_133 : decode cX11_init 133 = .ok (.dup, 1) := by decide +kernel
theorem dX11_init_134 : decode cX11_init 134 = .ok (.aload_n 0, 1) := by decide +kernel
theorem dX11_init_135 : decode cX11_init 135 = .ok (.getfield 24, 3) := by decide +kernel
theorem dX11_init_138 : decode cX11_init 138 = .ok (.aload_n 0, 1) := by decide +kernel
theorem dX11_init_139 : decode cX11_init 139 = .ok (.getfield 41, 3) := by decide +kernel
theorem dX11_init_142 : decode cX11_init 142 = .ok (.aload_n 0, 1) := by decide +kernel
theorem dX11_init_143 : decode cX11_init 143 = .ok (.getfield 50, 3) := by decide +kernel
theorem dX11_init_146 : decode cX11_init 146 = .ok (.invokespecial 74, 3) := by decide +kernel
theorem dX11_init_149 : decode cX11_init 149 = .ok (.putfield 77, 3) := by decide +kernel
theorem dX11_init_152 : decode cX11_init 152 = .ok (.aload_n 0, 1) := by decide +kernel
theorem dX11_init_153 : decode cX11_init 153 = .ok (.new 81, 3) := by decide +kernel
theorem dX11_init_156 : decode cX11_init 156 = .ok (.dup, 1) := by decide +kernel
theorem dX11_init_157 : decode cX11_init 157 = .ok (.aload_n 0, 1) := by decide +kernel
theorem dX11_init_158 : decode cX11_init 158 = .ok (.getfield 24, 3) := by decide +kernel
theorem dX11_init_161 : decode cX11_init 161 = .ok (.aload_n 0, 1) := by decide +kernel
theorem dX11_init_162 : decode cX11_init 162 = .ok (.getfield 41, 3) := by decide +kernel
theorem dX11_init_165 : decode cX11_init 165 = .ok (.aload_n 0, 1) := by decide +kernel
theorem dX11_init_166 : decode cX11_init 166 = .ok (.getfield 50, 3) := by decide +kernel
theorem dX11_init_169 : decode cX11_init 169 = .ok (.invokespecial 83, 3) := by decide +kernel
theorem dX11_init_172 : decode cX11_init 172 = .ok (.putfield 84, 3) := by decide +kernel
theorem dX11_init_175 : decode cX11_init 175 = .ok (.aload_n 0, 1) := by decide +kernel
theorem dX11_init_176 : decode cX11_init 176 = .ok (.new 88, 3) := by decide +kernel
theorem dX11_init_179 : decode cX11_init 179 = .ok (.dup, 1) := by decide +kernel
theorem dX11_init_180 : decode cX11_init 180 = .ok (.aload_n 0, 1) := by decide +kernel
theorem dX11_init_181 : decode cX11_init 181 = .ok (.getfield 50, 3) := by decide +kernel
theorem dX11_init_184 : decode cX11_init 184 = .ok (.invokespecial 90, 3) := by decide +kernel
theorem dX11_init_187 : decode cX11_init 187 = .ok (.putfield 93, 3) := by decide +kernel
theorem dX11_init_190 : decode cX11_init 190 = .ok (.aload_n 0, 1) := by decide +kernel
theorem dX11_init_191 : decode cX11_init 191 = .ok (.sipush 4096, 3) := by decide +kernel
theorem dX11_init_194 : decode cX11_init 194 = .ok (.newarray .int, 2) := by decide +kernel
theorem dX11_init_196 : decode cX11_init 196 = .ok (.putfield 97, 3) := by decide +kernel
theorem dX11_init_199 : decode cX11_init 199 = .ok (.aload_n 0, 1) := by decide +kernel
theorem dX11_init_200 : decode cX11_init 200 = .ok (.bipush 60, 2) := by decide +kernel
theorem dX11_init_202 : decode cX11_init 202 = .ok (.anewarray 101, 3) := by decide +kernel
theorem dX11_init_205 : decode cX11_init 205 = .ok (.putfield 103, 3) := by decide +kernel
theorem dX11_init_208 : decode cX11_init 208 = .ok (.aload_n 0, 1) := by decide +kernel
theorem dX11_init_209 : decode cX11_init 209 = .ok (.bipush 60, 2) := by decide +kernel
theorem dX11_init_211 : decode cX11_init 211 = .ok (.newarray .boolean, 2) := by decide +kernel
theorem dX11_init_213 : decode cX11_init 213 = .ok (.putfield 107, 3) := by decide +kernel
theorem dX11_init_216 : decode cX11_init 216 = .ok (.aload_n 0, 1) := by decide +kernel
theorem dX11_init_217 : decode cX11_init 217 = .ok (.sipush 2408, 3) := by decide +kernel
theorem dX11_init_220 : decode cX11_init 220 = .ok (.anewarray 101, 3) := by decide +kernel
theorem dX11_init_223 : decode cX11_init 223 = .ok (.putfield 111, 3) := by decide +kernel
theorem dX11_init_226 : decode cX11_init 226 = .ok (.aload_n 0, 1) := by decide +kernel
theorem dX11_init_227 : decode cX11_init 227 = .ok (.sipush 2408, 3) := by decide +kernel
theorem dX11_init_230 : decode cX11_init 230 = .ok (.newarray .int, 2) := by decide +kernel
theorem dX11_init_232 : decode cX11_init 232 = .ok (.putfield 114, 3) := by decide +kernel
theorem dX11_init_235 : decode cX11_init 235 = .ok (.aload_n 0, 1) := by decide +kernel
theorem dX11_init_236 : decode cX11_init 236 = .ok (.bipush 8, 2) := by decide +kernel
theorem dX11_init_238 : decode cX11_init 238 = .ok (.newarray .int, 2) := by decide +kernel
theorem dX11_init_240 : decode cX11_init 240 = .ok (.putfield 117, 3) := by decide +kernel
theorem dX11_init_243 : decode cX11_init 243 = .ok (.iconst 0, 1) := by decide +kernel
theorem dX11_init_244 : decode cX11_init 244 = .ok (.istore_n 1, 1) := by decide +kernel
theorem dX11_init_245 : decode cX11_init 245 = .ok (.iload_n 1, 1) := by decide +kernel
theorem dX11_init_246 : decode cX11_init 246 = .ok (.bipush 60, 2) := by decide +kernel
theorem dX11_init_248 : decode cX11_init 248 = .ok (.if_icmp .ge 22, 3) := by decide +kernel
theorem dX11_init_251 : decode cX11_init 251 = .ok (.aload_n 0, 1) := by decide +kernel
theorem dX11_init_252 : decode cX11_init 252 = .ok (.getfield 103, 3) := by decide +kernel
theorem dX11_init_255 : decode cX11_init 255 = .ok (.iload_n 1, 1) := by decide +kernel
theorem dX11_init_256 : decode cX11_init 256 = .ok (.new 101, 3) := by decide +kernel
theorem dX11_init_259 : decode cX11_init 259 = .ok (.dup, 1) := by decide +kernel
theorem dX11_init_260 : decode cX11_init 260 = .ok (.invokespecial 120, 3) := by decide +kernel
theorem dX11_init_263 : decode cX11_init 263 = .ok (.aastore, 1) := by decide +kernel
theorem dX11_init_264 : decode cX11_init 264 = .ok (.iinc 1 1, 3) := by decide +kernel
theorem dX11_init_267 : decode cX11_init 267 = .ok (.goto (-22), 3) := by decide +kernel
theorem dX11_init_270 : decode cX11_init 270 = .ok (.aload_n 0, 1) := by decide +kernel
theorem dX11_init_271 : decode cX11_init 271 = .ok (.getfield 117, 3) := by decide +kernel
theorem dX11_init_274 : decode cX11_init 274 = .ok (.iconst (-1), 1) := by decide +kernel
theorem dX11_init_275 : decode cX11_init 275 = .ok (.invokestatic 121, 3) := by decide +kernel
theorem dX11_init_278 : decode cX11_init 278 = .ok (.aload_n 0, 1) := by decide +kernel
theorem dX11_init_279 : decode cX11_init 279 = .ok (.getfield 14, 3) := by decide +kernel
theorem dX11_init_282 : decode cX11_init 282 = .ok (.ldc 127, 2) := by decide +kernel
theorem dX11_init_284 : decode cX11_init 284 = .ok (.invokevirtual 129, 3) := by decide +kernel
theorem dX11_init_287 : decode cX11_init 287 = .ok (.aload_n 0, 1) := by decide +kernel
theorem dX11_init_288 : decode cX11_init 288 = .ok (.getfield 14, 3) := by decide +kernel
theorem dX11_init_291 : decode cX11_init 291 = .ok (.ldc 133, 2) := by decide +kernel
theorem dX11_init_293 : decode cX11_init 293 = .ok (.invokevirtual 129, 3) := by decide +kernel
theorem dX11_init_296 : decode cX11_init 296 = .ok (.aload_n 0, 1) := by decide +kernel
theorem dX11_init_297 : decode cX11_init 297 = .ok (.getfield 14, 3) := by decide +kernel
theorem dX11_init_300 : decode cX11_init 300 = .ok (.ldc 135, 2) := by decide +kernel
theorem dX11_init_302 : decode cX11_init 302 = .ok (.invokevirtual 129, 3) := by decide +kernel
theorem dX11_init_305 : decode cX11_init 305 = .ok (.aload_n 0, 1) := by decide +kernel
theorem dX11_init_306 : decode cX11_init 306 = .ok (.getfield 34, 3) := by decide +kernel
theorem dX11_init_309 : decode cX11_init 309 = .ok (.aload_n 0, 1) := by decide +kernel
theorem dX11_init_310 : decode cX11_init 310 = .ok (.getfield 14, 3) := by decide +kernel
theorem dX11_init_313 : decode cX11_init 313 = .ok (.aload_n 0, 1) := by decide +kernel
theorem dX11_init_314 : decode cX11_init 314 = .ok (.getfield 24, 3) := by decide +kernel
theorem dX11_init_317 : decode cX11_init 317 = .ok (.invokevirtual 137, 3) := by decide +kernel
theorem dX11_init_320 : decode cX11_init 320 = .ok (.pop, 1) := by decide +kernel
theorem dX11_init_321 : decode cX11_init 321 = .ok (.aload_n 0, 1) := by decide +kernel
theorem dX11_init_322 : decode cX11_init 322 = .ok (.getfield 41, 3) := by decide +kernel
theorem dX11_init_325 : decode cX11_init 325 = .ok (.aload_n 0, 1) := by decide +kernel
theorem dX11_init_326 : decode cX11_init 326 = .ok (.getfield 24, 3) := by decide +kernel
theorem dX11_init_329 : decode cX11_init 329 = .ok (.invokevirtual 141, 3) := by decide +kernel
theorem dX11_init_332 : decode cX11_init 332 = .ok (.aload_n 0, 1) := by decide +kernel
theorem dX11_init_333 : decode cX11_init 333 = .ok (.getfield 14, 3) := by decide +kernel
theorem dX11_init_336 : decode cX11_init 336 = .ok (.invokevirtual 144, 3) := by decide +kernel
theorem dX11_init_339 : decode cX11_init 339 = .ok (.return_, 1) := by decide +kernel
def sX11_init_339 (F : Nat) (h : Hp) : Option (Hp) := some h
def sX11_init_332 (F : Nat) (h : Hp) (x0 : Nat) : Option (Hp) := cl (hR h x0 0) fun r_1 => cl (sX9_clear h r_1) fun o_2 => sX11_init_339 F o_2 
def sX11_init_320 (F : Nat) (h : Hp) (x0 : Nat) (t0 : Int32) : Option (Hp) := cl (hR h x0 5) fun r_1 => cl (hR h x0 2) fun r_2 => cl (sX10_lay F h r_1 r_2) fun o_3 => sX11_init_332 F o_3 x0
def sX11_init_305 (F : Nat) (h : Hp) (x0 : Nat) : Option (Hp) := cl (hR h x0 4) fun r_1 => cl (hR h x0 0) fun r_2 => cl (hR h x0 2) fun r_3 => cl (sX2_read F h r_1 r_2 r_3) fun o_4 => sX11_init_320 F o_4.2 x0 o_4.1
def sX11_init_296 (F : Nat) (h : Hp) (x0 : Nat) : Option (Hp) := cl (hR h x0 0) fun r_1 => cl (sX9_appendAll F h r_1 2) fun o_2 => sX11_init_305 F o_2 x0
def sX11_init_287 (F : Nat) (h : Hp) (x0 : Nat) : Option (Hp) := cl (hR h x0 0) fun r_1 => cl (sX9_appendAll F h r_1 1) fun o_2 => sX11_init_296 F o_2 x0
def sX11_init_278 (F : Nat) (h : Hp) (x0 : Nat) : Option (Hp) := cl (hR h x0 0) fun r_1 => cl (sX9_appendAll F h r_1 0) fun o_2 => sX11_init_287 F o_2 x0
def sX11_init_263 (F : Nat) (k_245 : Hp → Nat → Int32 → Option (Hp)) (h : Hp) (x0 : Nat) (x1 : Int32) (t0 : Nat) (t1 : Int32) (t2 : Nat) : Option (Hp) := gd (inB t1 (hN h t2)) <| nm (wR h t2 t1.toNatClampNeg (some t0)) fun h_2 => nm (x1 + (1 : Int32)) fun v_3 => k_245 h_2 x0 v_3
def sX11_init_259 (F : Nat) (k_245 : Hp → Nat → Int32 → Option (Hp)) (h : Hp) (x0 : Nat) (x1 : Int32) (t0 : Nat) (t1 : Int32) (t2 : Nat) : Option (Hp) := cl (sX3_init F h t0) fun o_1 => sX11_init_263 F k_245 o_1 x0 x1 t0 t1 t2
def sX11_init_245 (F : Nat) : Nat → Hp → Nat → Int32 → Option (Hp)
  | 0, _, _, _ => none
  | f + 1, h, x0, x1 => br ((60 : Int32) ≤ x1) (cl (hR h x0 17) fun r_2 => cl (sJ7_fill_53178 F h r_2 (-1 : Int32)) fun o_3 => sX11_init_278 F o_3 x0) (cl (hR h x0 13) fun r_4 => nm (hS h) fun a_5 => nm (nC h 3 0 11) fun h_6 => sX11_init_259 F (sX11_init_245 F f) h_6 x0 x1 a_5 x1 r_4)
def sX11_init_240 (F : Nat) (h : Hp) (x0 : Nat) (t0 : Nat) (t1 : Nat) : Option (Hp) := nm (wR h t1 17 (some t0)) fun h_1 => sX11_init_245 F F h_1 x0 (0 : Int32)
def sX11_init_232 (F : Nat) (h : Hp) (x0 : Nat) (t0 : Nat) (t1 : Nat) : Option (Hp) := nm (wR h t1 16 (some t0)) fun h_1 => nm (hS h_1) fun a_2 => nm (nC h_1 17 (8 : Int32).toNatClampNeg (8 : Int32).toNatClampNeg) fun h_3 => sX11_init_240 F h_3 x0 a_2 x0
def sX11_init_223 (F : Nat) (h : Hp) (x0 : Nat) (t0 : Nat) (t1 : Nat) : Option (Hp) := nm (wR h t1 15 (some t0)) fun h_1 => nm (hS h_1) fun a_2 => nm (nC h_1 17 (2408 : Int32).toNatClampNeg (2408 : Int32).toNatClampNeg) fun h_3 => sX11_init_232 F h_3 x0 a_2 x0
def sX11_init_213 (F : Nat) (h : Hp) (x0 : Nat) (t0 : Nat) (t1 : Nat) : Option (Hp) := nm (wR h t1 14 (some t0)) fun h_1 => nm (hS h_1) fun a_2 => nm (nC h_1 20 (2408 : Int32).toNatClampNeg (2408 : Int32).toNatClampNeg) fun h_3 => sX11_init_223 F h_3 x0 a_2 x0
def sX11_init_205 (F : Nat) (h : Hp) (x0 : Nat) (t0 : Nat) (t1 : Nat) : Option (Hp) := nm (wR h t1 13 (some t0)) fun h_1 => nm (hS h_1) fun a_2 => nm (nC h_1 19 (60 : Int32).toNatClampNeg (60 : Int32).toNatClampNeg) fun h_3 => sX11_init_213 F h_3 x0 a_2 x0
def sX11_init_196 (F : Nat) (h : Hp) (x0 : Nat) (t0 : Nat) (t1 : Nat) : Option (Hp) := nm (wR h t1 12 (some t0)) fun h_1 => nm (hS h_1) fun a_2 => nm (nC h_1 20 (60 : Int32).toNatClampNeg (60 : Int32).toNatClampNeg) fun h_3 => sX11_init_205 F h_3 x0 a_2 x0
def sX11_init_187 (F : Nat) (h : Hp) (x0 : Nat) (t0 : Nat) (t1 : Nat) : Option (Hp) := nm (wR h t1 11 (some t0)) fun h_1 => nm (hS h_1) fun a_2 => nm (nC h_1 17 (4096 : Int32).toNatClampNeg (4096 : Int32).toNatClampNeg) fun h_3 => sX11_init_196 F h_3 x0 a_2 x0
def sX11_init_179 (F : Nat) (h : Hp) (x0 : Nat) (t0 : Nat) (t1 : Nat) : Option (Hp) := cl (hR h x0 6) fun r_1 => cl (sX4_init F h t0 r_1) fun o_2 => sX11_init_187 F o_2 x0 t0 t1
def sX11_init_172 (F : Nat) (h : Hp) (x0 : Nat) (t0 : Nat) (t1 : Nat) : Option (Hp) := nm (wR h t1 10 (some t0)) fun h_1 => nm (hS h_1) fun a_2 => nm (nC h_1 4 0 17) fun h_3 => sX11_init_179 F h_3 x0 a_2 x0
def sX11_init_156 (F : Nat) (h : Hp) (x0 : Nat) (t0 : Nat) (t1 : Nat) : Option (Hp) := cl (hR h x0 2) fun r_1 => cl (hR h x0 5) fun r_2 => cl (hR h x0 6) fun r_3 => cl (sX0_init F h t0 r_1 r_2 r_3) fun o_4 => sX11_init_172 F o_4 x0 t0 t1
def sX11_init_149 (F : Nat) (h : Hp) (x0 : Nat) (t0 : Nat) (t1 : Nat) : Option (Hp) := nm (wR h t1 9 (some t0)) fun h_1 => nm (hS h_1) fun a_2 => nm (nC h_1 0 0 19) fun h_3 => sX11_init_156 F h_3 x0 a_2 x0
def sX11_init_133 (F : Nat) (h : Hp) (x0 : Nat) (t0 : Nat) (t1 : Nat) : Option (Hp) := cl (hR h x0 2) fun r_1 => cl (hR h x0 5) fun r_2 => cl (hR h x0 6) fun r_3 => cl (sX6_init F h t0 r_1 r_2 r_3) fun o_4 => sX11_init_149 F o_4 x0 t0 t1
def sX11_init_126 (F : Nat) (h : Hp) (x0 : Nat) (t0 : Nat) (t1 : Nat) : Option (Hp) := nm (wR h t1 8 (some t0)) fun h_1 => nm (hS h_1) fun a_2 => nm (nC h_1 6 0 8) fun h_3 => sX11_init_133 F h_3 x0 a_2 x0
def sX11_init_114 (F : Nat) (h : Hp) (x0 : Nat) (t0 : Nat) (t1 : Nat) : Option (Hp) := cl (hR h x0 2) fun r_1 => cl (hR h x0 6) fun r_2 => cl (sX8_init F h t0 r_1 r_2) fun o_3 => sX11_init_126 F o_3 x0 t0 t1
def sX11_init_107 (F : Nat) (h : Hp) (x0 : Nat) (t0 : Nat) (t1 : Nat) : Option (Hp) := nm (wR h t1 7 (some t0)) fun h_1 => nm (hS h_1) fun a_2 => nm (nC h_1 8 0 4) fun h_3 => sX11_init_114 F h_3 x0 a_2 x0
def sX11_init_99 (F : Nat) (h : Hp) (x0 : Nat) (t0 : Nat) (t1 : Nat) : Option (Hp) := cl (hR h x0 2) fun r_1 => cl (sX7_init h t0 r_1) fun o_2 => sX11_init_107 F o_2 x0 t0 t1
def sX11_init_92 (F : Nat) (h : Hp) (x0 : Nat) (t0 : Nat) (t1 : Nat) : Option (Hp) := nm (wR h t1 6 (some t0)) fun h_1 => nm (hS h_1) fun a_2 => nm (nC h_1 7 0 3) fun h_3 => sX11_init_99 F h_3 x0 a_2 x0
def sX11_init_80 (F : Nat) (h : Hp) (x0 : Nat) (t0 : Nat) (t1 : Nat) : Option (Hp) := cl (hR h x0 2) fun r_1 => cl (hR h x0 5) fun r_2 => cl (sX5_init F h t0 r_1 r_2) fun o_3 => sX11_init_92 F o_3 x0 t0 t1
def sX11_init_73 (F : Nat) (h : Hp) (x0 : Nat) (t0 : Nat) (t1 : Nat) : Option (Hp) := nm (wR h t1 5 (some t0)) fun h_1 => nm (hS h_1) fun a_2 => nm (nC h_1 5 0 10) fun h_3 => sX11_init_80 F h_3 x0 a_2 x0
def sX11_init_69 (F : Nat) (h : Hp) (x0 : Nat) (t0 : Nat) (t1 : Nat) : Option (Hp) := cl (sX10_init h t0) fun o_1 => sX11_init_73 F o_1 x0 t0 t1
def sX11_init_62 (F : Nat) (h : Hp) (x0 : Nat) (t0 : Nat) (t1 : Nat) : Option (Hp) := nm (wR h t1 4 (some t0)) fun h_1 => nm (hS h_1) fun a_2 => nm (nC h_1 10 0 9) fun h_3 => sX11_init_69 F h_3 x0 a_2 x0
def sX11_init_58 (F : Nat) (h : Hp) (x0 : Nat) (t0 : Nat) (t1 : Nat) : Option (Hp) := cl (sX2_init h t0) fun o_1 => sX11_init_62 F o_1 x0 t0 t1
def sX11_init_51 (F : Nat) (h : Hp) (x0 : Nat) (t0 : Nat) (t1 : Nat) : Option (Hp) := nm (wR h t1 3 (some t0)) fun h_1 => nm (hS h_1) fun a_2 => nm (nC h_1 2 0 7) fun h_3 => sX11_init_58 F h_3 x0 a_2 x0
def sX11_init_47 (F : Nat) (h : Hp) (x0 : Nat) (t0 : Nat) (t1 : Nat) : Option (Hp) := cl (sX1_init h t0) fun o_1 => sX11_init_51 F o_1 x0 t0 t1
def sX11_init_40 (F : Nat) (h : Hp) (x0 : Nat) (t0 : Nat) (t1 : Nat) : Option (Hp) := nm (wR h t1 2 (some t0)) fun h_1 => nm (hS h_1) fun a_2 => nm (nC h_1 1 0 21) fun h_3 => sX11_init_47 F h_3 x0 a_2 x0
def sX11_init_36 (F : Nat) (h : Hp) (x0 : Nat) (t0 : Nat) (t1 : Nat) : Option (Hp) := cl (sX1_init h t0) fun o_1 => sX11_init_40 F o_1 x0 t0 t1
def sX11_init_29 (F : Nat) (h : Hp) (x0 : Nat) (t0 : Nat) (t1 : Nat) : Option (Hp) := nm (wR h t1 1 (some t0)) fun h_1 => nm (hS h_1) fun a_2 => nm (nC h_1 1 0 21) fun h_3 => sX11_init_36 F h_3 x0 a_2 x0
def sX11_init_22 (F : Nat) (h : Hp) (x0 : Nat) (t0 : Nat) (t1 : Nat) : Option (Hp) := cl (sX9_init h t0 (512 : Int32)) fun o_1 => sX11_init_29 F o_1 x0 t0 t1
def sX11_init_15 (F : Nat) (h : Hp) (x0 : Nat) (t0 : Nat) (t1 : Nat) : Option (Hp) := nm (wR h t1 0 (some t0)) fun h_1 => nm (hS h_1) fun a_2 => nm (nC h_1 9 0 2) fun h_3 => sX11_init_22 F h_3 x0 a_2 x0
def sX11_init_8 (F : Nat) (h : Hp) (x0 : Nat) (t0 : Nat) (t1 : Nat) : Option (Hp) := cl (sX9_init h t0 (1200 : Int32)) fun o_1 => sX11_init_15 F o_1 x0 t0 t1
def sX11_init (F : Nat) (h : Hp) (x0 : Nat) : Option (Hp) := nm (hS h) fun a_1 => nm (nC h 9 0 2) fun h_2 => sX11_init_8 F h_2 x0 a_1 x0
set_option maxRecDepth 20000 in
theorem moX11_init_339 {o : Hp} {F : Nat} {h : Hp} (hE : sX11_init_339 F h  = some o) : Le h o := by
  cases hE
  exact Le.rf _
set_option maxRecDepth 20000 in
theorem moX11_init_332 {o : Hp} {F : Nat} {h : Hp} {x0 : Nat} (hE : sX11_init_332 F h x0 = some o) : Le h o := by
  obtain ⟨r_1, er_1, hE⟩ := cl_e hE
  obtain ⟨o_2, eo_2, hE⟩ := cl_e hE
  refine (moX9_clear eo_2).tr ?_
  exact moX11_init_339 hE
set_option maxRecDepth 20000 in
theorem moX11_init_320 {o : Hp} {F : Nat} {h : Hp} {x0 : Nat} {t0 : Int32} (hE : sX11_init_320 F h x0 t0 = some o) : Le h o := by
  obtain ⟨r_1, er_1, hE⟩ := cl_e hE
  obtain ⟨r_2, er_2, hE⟩ := cl_e hE
  obtain ⟨o_3, eo_3, hE⟩ := cl_e hE
  refine (moX10_lay eo_3).tr ?_
  exact moX11_init_332 hE
set_option maxRecDepth 20000 in
theorem moX11_init_305 {o : Hp} {F : Nat} {h : Hp} {x0 : Nat} (hE : sX11_init_305 F h x0 = some o) : Le h o := by
  obtain ⟨r_1, er_1, hE⟩ := cl_e hE
  obtain ⟨r_2, er_2, hE⟩ := cl_e hE
  obtain ⟨r_3, er_3, hE⟩ := cl_e hE
  obtain ⟨o_4, eo_4, hE⟩ := cl_e hE
  refine (moX2_read eo_4).tr ?_
  exact moX11_init_320 hE
set_option maxRecDepth 20000 in
theorem moX11_init_296 {o : Hp} {F : Nat} {h : Hp} {x0 : Nat} (hE : sX11_init_296 F h x0 = some o) : Le h o := by
  obtain ⟨r_1, er_1, hE⟩ := cl_e hE
  obtain ⟨o_2, eo_2, hE⟩ := cl_e hE
  refine (moX9_appendAll eo_2).tr ?_
  exact moX11_init_305 hE
set_option maxRecDepth 20000 in
theorem moX11_init_287 {o : Hp} {F : Nat} {h : Hp} {x0 : Nat} (hE : sX11_init_287 F h x0 = some o) : Le h o := by
  obtain ⟨r_1, er_1, hE⟩ := cl_e hE
  obtain ⟨o_2, eo_2, hE⟩ := cl_e hE
  refine (moX9_appendAll eo_2).tr ?_
  exact moX11_init_296 hE
set_option maxRecDepth 20000 in
theorem moX11_init_278 {o : Hp} {F : Nat} {h : Hp} {x0 : Nat} (hE : sX11_init_278 F h x0 = some o) : Le h o := by
  obtain ⟨r_1, er_1, hE⟩ := cl_e hE
  obtain ⟨o_2, eo_2, hE⟩ := cl_e hE
  refine (moX9_appendAll eo_2).tr ?_
  exact moX11_init_287 hE
set_option maxRecDepth 20000 in
theorem moX11_init_263 {o : Hp} {k_245 : Hp → Nat → Int32 → Option (Hp)} {F : Nat} (mk_245 : ∀ (h : Hp) (x0 : Nat) (x1 : Int32), k_245 h x0 x1 = some o → Le h o) {h : Hp} {x0 : Nat} {x1 : Int32} {t0 : Nat} {t1 : Int32} {t2 : Nat} (hE : sX11_init_263 F k_245 h x0 x1 t0 t1 t2 = some o) : Le h o := by
  obtain ⟨g_1, hE⟩ := gd_e hE
  obtain ⟨h_2, eh_2, hE⟩ := nm_e2 hE
  refine (le_R eh_2).tr ?_
  obtain ⟨v_3, ev_3, hE⟩ := nm_e2 hE
  exact mk_245 _ _ _ hE
set_option maxRecDepth 20000 in
theorem moX11_init_259 {o : Hp} {k_245 : Hp → Nat → Int32 → Option (Hp)} {F : Nat} (mk_245 : ∀ (h : Hp) (x0 : Nat) (x1 : Int32), k_245 h x0 x1 = some o → Le h o) {h : Hp} {x0 : Nat} {x1 : Int32} {t0 : Nat} {t1 : Int32} {t2 : Nat} (hE : sX11_init_259 F k_245 h x0 x1 t0 t1 t2 = some o) : Le h o := by
  obtain ⟨o_1, eo_1, hE⟩ := cl_e hE
  refine (moX3_init eo_1).tr ?_
  exact moX11_init_263 mk_245 hE
set_option maxRecDepth 20000 in
theorem moX11_init_245 {o : Hp} {F : Nat} : ∀ (f : Nat) {h : Hp} {x0 : Nat} {x1 : Int32}, sX11_init_245 F f h x0 x1 = some o → Le h o := by
  intro f
  induction f with
  | zero =>
    intro h x0 x1 hE
    rw [sX11_init_245] at hE
    cases hE
  | succ f ih =>
    intro h x0 x1 hE
    rw [sX11_init_245] at hE
    have mk_245 : ∀ (h : Hp) (x0 : Nat) (x1 : Int32), sX11_init_245 F f h x0 x1 = some o → Le h o := fun h x0 x1 hE => ih hE
    rcases br_e hE with ⟨_, hE⟩ | ⟨_, hE⟩
    · obtain ⟨r_2, er_2, hE⟩ := cl_e hE
      obtain ⟨o_3, eo_3, hE⟩ := cl_e hE
      refine (moJ7_fill_53178 eo_3).tr ?_
      exact moX11_init_278 hE
    · obtain ⟨r_4, er_4, hE⟩ := cl_e hE
      obtain ⟨a_5, ea_5, hE⟩ := nm_e2 hE
      obtain ⟨h_6, eh_6, hE⟩ := nm_e2 hE
      refine (le_C eh_6).tr ?_
      exact moX11_init_259 mk_245 hE
set_option maxRecDepth 20000 in
theorem moX11_init_240 {o : Hp} {F : Nat} {h : Hp} {x0 : Nat} {t0 : Nat} {t1 : Nat} (hE : sX11_init_240 F h x0 t0 t1 = some o) : Le h o := by
  obtain ⟨h_1, eh_1, hE⟩ := nm_e2 hE
  refine (le_R eh_1).tr ?_
  exact moX11_init_245 _ hE
set_option maxRecDepth 20000 in
theorem moX11_init_232 {o : Hp} {F : Nat} {h : Hp} {x0 : Nat} {t0 : Nat} {t1 : Nat} (hE : sX11_init_232 F h x0 t0 t1 = some o) : Le h o := by
  obtain ⟨h_1, eh_1, hE⟩ := nm_e2 hE
  refine (le_R eh_1).tr ?_
  obtain ⟨a_2, ea_2, hE⟩ := nm_e2 hE
  obtain ⟨h_3, eh_3, hE⟩ := nm_e2 hE
  refine (le_C eh_3).tr ?_
  exact moX11_init_240 hE
set_option maxRecDepth 20000 in
theorem moX11_init_223 {o : Hp} {F : Nat} {h : Hp} {x0 : Nat} {t0 : Nat} {t1 : Nat} (hE : sX11_init_223 F h x0 t0 t1 = some o) : Le h o := by
  obtain ⟨h_1, eh_1, hE⟩ := nm_e2 hE
  refine (le_R eh_1).tr ?_
  obtain ⟨a_2, ea_2, hE⟩ := nm_e2 hE
  obtain ⟨h_3, eh_3, hE⟩ := nm_e2 hE
  refine (le_C eh_3).tr ?_
  exact moX11_init_232 hE
set_option maxRecDepth 20000 in
theorem moX11_init_213 {o : Hp} {F : Nat} {h : Hp} {x0 : Nat} {t0 : Nat} {t1 : Nat} (hE : sX11_init_213 F h x0 t0 t1 = some o) : Le h o := by
  obtain ⟨h_1, eh_1, hE⟩ := nm_e2 hE
  refine (le_R eh_1).tr ?_
  obtain ⟨a_2, ea_2, hE⟩ := nm_e2 hE
  obtain ⟨h_3, eh_3, hE⟩ := nm_e2 hE
  refine (le_C eh_3).tr ?_
  exact moX11_init_223 hE
set_option maxRecDepth 20000 in
theorem moX11_init_205 {o : Hp} {F : Nat} {h : Hp} {x0 : Nat} {t0 : Nat} {t1 : Nat} (hE : sX11_init_205 F h x0 t0 t1 = some o) : Le h o := by
  obtain ⟨h_1, eh_1, hE⟩ := nm_e2 hE
  refine (le_R eh_1).tr ?_
  obtain ⟨a_2, ea_2, hE⟩ := nm_e2 hE
  obtain ⟨h_3, eh_3, hE⟩ := nm_e2 hE
  refine (le_C eh_3).tr ?_
  exact moX11_init_213 hE
set_option maxRecDepth 20000 in
theorem moX11_init_196 {o : Hp} {F : Nat} {h : Hp} {x0 : Nat} {t0 : Nat} {t1 : Nat} (hE : sX11_init_196 F h x0 t0 t1 = some o) : Le h o := by
  obtain ⟨h_1, eh_1, hE⟩ := nm_e2 hE
  refine (le_R eh_1).tr ?_
  obtain ⟨a_2, ea_2, hE⟩ := nm_e2 hE
  obtain ⟨h_3, eh_3, hE⟩ := nm_e2 hE
  refine (le_C eh_3).tr ?_
  exact moX11_init_205 hE
set_option maxRecDepth 20000 in
theorem moX11_init_187 {o : Hp} {F : Nat} {h : Hp} {x0 : Nat} {t0 : Nat} {t1 : Nat} (hE : sX11_init_187 F h x0 t0 t1 = some o) : Le h o := by
  obtain ⟨h_1, eh_1, hE⟩ := nm_e2 hE
  refine (le_R eh_1).tr ?_
  obtain ⟨a_2, ea_2, hE⟩ := nm_e2 hE
  obtain ⟨h_3, eh_3, hE⟩ := nm_e2 hE
  refine (le_C eh_3).tr ?_
  exact moX11_init_196 hE
set_option maxRecDepth 20000 in
theorem moX11_init_179 {o : Hp} {F : Nat} {h : Hp} {x0 : Nat} {t0 : Nat} {t1 : Nat} (hE : sX11_init_179 F h x0 t0 t1 = some o) : Le h o := by
  obtain ⟨r_1, er_1, hE⟩ := cl_e hE
  obtain ⟨o_2, eo_2, hE⟩ := cl_e hE
  refine (moX4_init eo_2).tr ?_
  exact moX11_init_187 hE
set_option maxRecDepth 20000 in
theorem moX11_init_172 {o : Hp} {F : Nat} {h : Hp} {x0 : Nat} {t0 : Nat} {t1 : Nat} (hE : sX11_init_172 F h x0 t0 t1 = some o) : Le h o := by
  obtain ⟨h_1, eh_1, hE⟩ := nm_e2 hE
  refine (le_R eh_1).tr ?_
  obtain ⟨a_2, ea_2, hE⟩ := nm_e2 hE
  obtain ⟨h_3, eh_3, hE⟩ := nm_e2 hE
  refine (le_C eh_3).tr ?_
  exact moX11_init_179 hE
set_option maxRecDepth 20000 in
theorem moX11_init_156 {o : Hp} {F : Nat} {h : Hp} {x0 : Nat} {t0 : Nat} {t1 : Nat} (hE : sX11_init_156 F h x0 t0 t1 = some o) : Le h o := by
  obtain ⟨r_1, er_1, hE⟩ := cl_e hE
  obtain ⟨r_2, er_2, hE⟩ := cl_e hE
  obtain ⟨r_3, er_3, hE⟩ := cl_e hE
  obtain ⟨o_4, eo_4, hE⟩ := cl_e hE
  refine (moX0_init eo_4).tr ?_
  exact moX11_init_172 hE
set_option maxRecDepth 20000 in
theorem moX11_init_149 {o : Hp} {F : Nat} {h : Hp} {x0 : Nat} {t0 : Nat} {t1 : Nat} (hE : sX11_init_149 F h x0 t0 t1 = some o) : Le h o := by
  obtain ⟨h_1, eh_1, hE⟩ := nm_e2 hE
  refine (le_R eh_1).tr ?_
  obtain ⟨a_2, ea_2, hE⟩ := nm_e2 hE
  obtain ⟨h_3, eh_3, hE⟩ := nm_e2 hE
  refine (le_C eh_3).tr ?_
  exact moX11_init_156 hE
set_option maxRecDepth 20000 in
theorem moX11_init_133 {o : Hp} {F : Nat} {h : Hp} {x0 : Nat} {t0 : Nat} {t1 : Nat} (hE : sX11_init_133 F h x0 t0 t1 = some o) : Le h o := by
  obtain ⟨r_1, er_1, hE⟩ := cl_e hE
  obtain ⟨r_2, er_2, hE⟩ := cl_e hE
  obtain ⟨r_3, er_3, hE⟩ := cl_e hE
  obtain ⟨o_4, eo_4, hE⟩ := cl_e hE
  refine (moX6_init eo_4).tr ?_
  exact moX11_init_149 hE
set_option maxRecDepth 20000 in
theorem moX11_init_126 {o : Hp} {F : Nat} {h : Hp} {x0 : Nat} {t0 : Nat} {t1 : Nat} (hE : sX11_init_126 F h x0 t0 t1 = some o) : Le h o := by
  obtain ⟨h_1, eh_1, hE⟩ := nm_e2 hE
  refine (le_R eh_1).tr ?_
  obtain ⟨a_2, ea_2, hE⟩ := nm_e2 hE
  obtain ⟨h_3, eh_3, hE⟩ := nm_e2 hE
  refine (le_C eh_3).tr ?_
  exact moX11_init_133 hE
set_option maxRecDepth 20000 in
theorem moX11_init_114 {o : Hp} {F : Nat} {h : Hp} {x0 : Nat} {t0 : Nat} {t1 : Nat} (hE : sX11_init_114 F h x0 t0 t1 = some o) : Le h o := by
  obtain ⟨r_1, er_1, hE⟩ := cl_e hE
  obtain ⟨r_2, er_2, hE⟩ := cl_e hE
  obtain ⟨o_3, eo_3, hE⟩ := cl_e hE
  refine (moX8_init eo_3).tr ?_
  exact moX11_init_126 hE
set_option maxRecDepth 20000 in
theorem moX11_init_107 {o : Hp} {F : Nat} {h : Hp} {x0 : Nat} {t0 : Nat} {t1 : Nat} (hE : sX11_init_107 F h x0 t0 t1 = some o) : Le h o := by
  obtain ⟨h_1, eh_1, hE⟩ := nm_e2 hE
  refine (le_R eh_1).tr ?_
  obtain ⟨a_2, ea_2, hE⟩ := nm_e2 hE
  obtain ⟨h_3, eh_3, hE⟩ := nm_e2 hE
  refine (le_C eh_3).tr ?_
  exact moX11_init_114 hE
set_option maxRecDepth 20000 in
theorem moX11_init_99 {o : Hp} {F : Nat} {h : Hp} {x0 : Nat} {t0 : Nat} {t1 : Nat} (hE : sX11_init_99 F h x0 t0 t1 = some o) : Le h o := by
  obtain ⟨r_1, er_1, hE⟩ := cl_e hE
  obtain ⟨o_2, eo_2, hE⟩ := cl_e hE
  refine (moX7_init eo_2).tr ?_
  exact moX11_init_107 hE
set_option maxRecDepth 20000 in
theorem moX11_init_92 {o : Hp} {F : Nat} {h : Hp} {x0 : Nat} {t0 : Nat} {t1 : Nat} (hE : sX11_init_92 F h x0 t0 t1 = some o) : Le h o := by
  obtain ⟨h_1, eh_1, hE⟩ := nm_e2 hE
  refine (le_R eh_1).tr ?_
  obtain ⟨a_2, ea_2, hE⟩ := nm_e2 hE
  obtain ⟨h_3, eh_3, hE⟩ := nm_e2 hE
  refine (le_C eh_3).tr ?_
  exact moX11_init_99 hE
set_option maxRecDepth 20000 in
theorem moX11_init_80 {o : Hp} {F : Nat} {h : Hp} {x0 : Nat} {t0 : Nat} {t1 : Nat} (hE : sX11_init_80 F h x0 t0 t1 = some o) : Le h o := by
  obtain ⟨r_1, er_1, hE⟩ := cl_e hE
  obtain ⟨r_2, er_2, hE⟩ := cl_e hE
  obtain ⟨o_3, eo_3, hE⟩ := cl_e hE
  refine (moX5_init eo_3).tr ?_
  exact moX11_init_92 hE
set_option maxRecDepth 20000 in
theorem moX11_init_73 {o : Hp} {F : Nat} {h : Hp} {x0 : Nat} {t0 : Nat} {t1 : Nat} (hE : sX11_init_73 F h x0 t0 t1 = some o) : Le h o := by
  obtain ⟨h_1, eh_1, hE⟩ := nm_e2 hE
  refine (le_R eh_1).tr ?_
  obtain ⟨a_2, ea_2, hE⟩ := nm_e2 hE
  obtain ⟨h_3, eh_3, hE⟩ := nm_e2 hE
  refine (le_C eh_3).tr ?_
  exact moX11_init_80 hE
set_option maxRecDepth 20000 in
theorem moX11_init_69 {o : Hp} {F : Nat} {h : Hp} {x0 : Nat} {t0 : Nat} {t1 : Nat} (hE : sX11_init_69 F h x0 t0 t1 = some o) : Le h o := by
  obtain ⟨o_1, eo_1, hE⟩ := cl_e hE
  refine (moX10_init eo_1).tr ?_
  exact moX11_init_73 hE
set_option maxRecDepth 20000 in
theorem moX11_init_62 {o : Hp} {F : Nat} {h : Hp} {x0 : Nat} {t0 : Nat} {t1 : Nat} (hE : sX11_init_62 F h x0 t0 t1 = some o) : Le h o := by
  obtain ⟨h_1, eh_1, hE⟩ := nm_e2 hE
  refine (le_R eh_1).tr ?_
  obtain ⟨a_2, ea_2, hE⟩ := nm_e2 hE
  obtain ⟨h_3, eh_3, hE⟩ := nm_e2 hE
  refine (le_C eh_3).tr ?_
  exact moX11_init_69 hE
set_option maxRecDepth 20000 in
theorem moX11_init_58 {o : Hp} {F : Nat} {h : Hp} {x0 : Nat} {t0 : Nat} {t1 : Nat} (hE : sX11_init_58 F h x0 t0 t1 = some o) : Le h o := by
  obtain ⟨o_1, eo_1, hE⟩ := cl_e hE
  refine (moX2_init eo_1).tr ?_
  exact moX11_init_62 hE
set_option maxRecDepth 20000 in
theorem moX11_init_51 {o : Hp} {F : Nat} {h : Hp} {x0 : Nat} {t0 : Nat} {t1 : Nat} (hE : sX11_init_51 F h x0 t0 t1 = some o) : Le h o := by
  obtain ⟨h_1, eh_1, hE⟩ := nm_e2 hE
  refine (le_R eh_1).tr ?_
  obtain ⟨a_2, ea_2, hE⟩ := nm_e2 hE
  obtain ⟨h_3, eh_3, hE⟩ := nm_e2 hE
  refine (le_C eh_3).tr ?_
  exact moX11_init_58 hE
set_option maxRecDepth 20000 in
theorem moX11_init_47 {o : Hp} {F : Nat} {h : Hp} {x0 : Nat} {t0 : Nat} {t1 : Nat} (hE : sX11_init_47 F h x0 t0 t1 = some o) : Le h o := by
  obtain ⟨o_1, eo_1, hE⟩ := cl_e hE
  refine (moX1_init eo_1).tr ?_
  exact moX11_init_51 hE
set_option maxRecDepth 20000 in
theorem moX11_init_40 {o : Hp} {F : Nat} {h : Hp} {x0 : Nat} {t0 : Nat} {t1 : Nat} (hE : sX11_init_40 F h x0 t0 t1 = some o) : Le h o := by
  obtain ⟨h_1, eh_1, hE⟩ := nm_e2 hE
  refine (le_R eh_1).tr ?_
  obtain ⟨a_2, ea_2, hE⟩ := nm_e2 hE
  obtain ⟨h_3, eh_3, hE⟩ := nm_e2 hE
  refine (le_C eh_3).tr ?_
  exact moX11_init_47 hE
set_option maxRecDepth 20000 in
theorem moX11_init_36 {o : Hp} {F : Nat} {h : Hp} {x0 : Nat} {t0 : Nat} {t1 : Nat} (hE : sX11_init_36 F h x0 t0 t1 = some o) : Le h o := by
  obtain ⟨o_1, eo_1, hE⟩ := cl_e hE
  refine (moX1_init eo_1).tr ?_
  exact moX11_init_40 hE
set_option maxRecDepth 20000 in
theorem moX11_init_29 {o : Hp} {F : Nat} {h : Hp} {x0 : Nat} {t0 : Nat} {t1 : Nat} (hE : sX11_init_29 F h x0 t0 t1 = some o) : Le h o := by
  obtain ⟨h_1, eh_1, hE⟩ := nm_e2 hE
  refine (le_R eh_1).tr ?_
  obtain ⟨a_2, ea_2, hE⟩ := nm_e2 hE
  obtain ⟨h_3, eh_3, hE⟩ := nm_e2 hE
  refine (le_C eh_3).tr ?_
  exact moX11_init_36 hE
set_option maxRecDepth 20000 in
theorem moX11_init_22 {o : Hp} {F : Nat} {h : Hp} {x0 : Nat} {t0 : Nat} {t1 : Nat} (hE : sX11_init_22 F h x0 t0 t1 = some o) : Le h o := by
  obtain ⟨o_1, eo_1, hE⟩ := cl_e hE
  refine (moX9_init eo_1).tr ?_
  exact moX11_init_29 hE
set_option maxRecDepth 20000 in
theorem moX11_init_15 {o : Hp} {F : Nat} {h : Hp} {x0 : Nat} {t0 : Nat} {t1 : Nat} (hE : sX11_init_15 F h x0 t0 t1 = some o) : Le h o := by
  obtain ⟨h_1, eh_1, hE⟩ := nm_e2 hE
  refine (le_R eh_1).tr ?_
  obtain ⟨a_2, ea_2, hE⟩ := nm_e2 hE
  obtain ⟨h_3, eh_3, hE⟩ := nm_e2 hE
  refine (le_C eh_3).tr ?_
  exact moX11_init_22 hE
set_option maxRecDepth 20000 in
theorem moX11_init_8 {o : Hp} {F : Nat} {h : Hp} {x0 : Nat} {t0 : Nat} {t1 : Nat} (hE : sX11_init_8 F h x0 t0 t1 = some o) : Le h o := by
  obtain ⟨o_1, eo_1, hE⟩ := cl_e hE
  refine (moX9_init eo_1).tr ?_
  exact moX11_init_15 hE
set_option maxRecDepth 20000 in
theorem moX11_init {o : Hp} {F : Nat} {h : Hp} {x0 : Nat} (hE : sX11_init F h x0 = some o) : Le h o := by
  obtain ⟨a_1, ea_1, hE⟩ := nm_e2 hE
  obtain ⟨h_2, eh_2, hE⟩ := nm_e2 hE
  refine (le_C eh_2).tr ?_
  exact moX11_init_8 hE
set_option maxRecDepth 20000 in
theorem bX11_init_339 {p : Program} {l : Launch} {e : Env} {s : State} {m : MethodId} {args : Array Value} {below : List Frame} {meth : Method} {c : Code} {X : Ec} {h0 : Hp} {o : Hp} {F : Nat} (C : Cx X p s m args meth c RX11 cX11_init 2 none "<init>") {h : Hp} {H : Heap} {locs : List Loc} (hkl : Kl h0 h) (hW : Wx X h H) (hZ : va_S (aA (eB X)) s.heap H locs) (ls : Array Slot) (hl : lv_has ls 2 []) (hE : sX11_init_339 F h  = some o) : W p l e (rmA 9 205 h0 o) s m args below meth c H locs (hS h - hS h0) (hL h - hL h0) (MQ below (QVA X h0 o) args s (hS o - hS h0) (hL o - hL h0) (aA (eB X))) (F0 m 339 ls []) := by
  exact x_vretA C rfl hW hZ hkl hE dX11_init_339
set_option maxRecDepth 20000 in
theorem bX11_init_332 {p : Program} {l : Launch} {e : Env} {s : State} {m : MethodId} {args : Array Value} {below : List Frame} {meth : Method} {c : Code} {X : Ec} {h0 : Hp} {o : Hp} {F : Nat} (C : Cx X p s m args meth c RX11 cX11_init 2 none "<init>") {h : Hp} {x0 : Nat} {H : Heap} {locs : List Loc} (k_x0 : hK h x0 = 11) (hkl : Kl h0 h) (hW : Wx X h H) (hZ : va_S (aA (eB X)) s.heap H locs) (ls : Array Slot) (hl : lv_has ls 2 [(0, .ref x0)]) (hE : sX11_init_332 F h x0 = some o) : W p l e (rmA 9 205 h0 o) s m args below meth c H locs (hS h - hS h0) (hL h - hL h0) (MQ below (QVA X h0 o) args s (hS o - hS h0) (hL o - hL h0) (aA (eB X))) (F0 m 332 ls []) := by
  refine lv_aload_n C.1 C.2.1 dX11_init_332 rfl (lv_at hl 0 rfl) ?_
  obtain ⟨r_1, er_1, hE⟩ := cl_e hE
  refine gf_X11_14 C hW k_x0 er_1 dX11_init_333 (fun k_r_1 => ?_)
  obtain ⟨o_2, eo_2, hE⟩ := cl_e hE
  have m1 := moX9_clear eo_2
  have m2 := moX11_init_339 hE
  refine x_kV (o := o_2) (z_runV (As := []) (rest := []) C (ct_X9_clear l X k_r_1 eo_2) cw_X11_144 hW hZ k_r_1 (by decide) rfl rfl rfl hl.1 (Nat.le_of_ble_eq_true rfl) rfl dX11_init_336 ⟨Nat.le_of_ble_eq_true rfl, Nat.le_of_ble_eq_true rfl⟩ (rm_ok0 hkl m1 m2)) hZ (fun _ _ hW km hZ => ?_)
  replace hkl := hkl.tr km.l
  refine x_wc km ?_
  replace k_x0 := km.at k_x0 (by decide)
  exact bX11_init_339 C hkl hW hZ _ (lv_sub hl [] rfl) hE
set_option maxRecDepth 20000 in
theorem bX11_init_320 {p : Program} {l : Launch} {e : Env} {s : State} {m : MethodId} {args : Array Value} {below : List Frame} {meth : Method} {c : Code} {X : Ec} {h0 : Hp} {o : Hp} {F : Nat} (C : Cx X p s m args meth c RX11 cX11_init 2 none "<init>") {h : Hp} {x0 : Nat} {t0 : Int32} {H : Heap} {locs : List Loc} (k_x0 : hK h x0 = 11) (hkl : Kl h0 h) (hW : Wx X h H) (hZ : va_S (aA (eB X)) s.heap H locs) (ls : Array Slot) (hl : lv_has ls 2 [(0, .ref x0)]) (hE : sX11_init_320 F h x0 t0 = some o) : W p l e (rmA 9 205 h0 o) s m args below meth c H locs (hS h - hS h0) (hL h - hL h0) (MQ below (QVA X h0 o) args s (hS o - hS h0) (hL o - hL h0) (aA (eB X))) (F0 m 320 ls [.int t0]) := by
  refine lv_pop C.1 C.2.1 dX11_init_320 rfl ?_
  refine lv_aload_n C.1 C.2.1 dX11_init_321 rfl (lv_at hl 0 rfl) ?_
  obtain ⟨r_1, er_1, hE⟩ := cl_e hE
  refine gf_X11_41 C hW k_x0 er_1 dX11_init_322 (fun k_r_1 => ?_)
  refine lv_aload_n C.1 C.2.1 dX11_init_325 rfl (lv_at hl 0 rfl) ?_
  obtain ⟨r_2, er_2, hE⟩ := cl_e hE
  refine gf_X11_24 C hW k_x0 er_2 dX11_init_326 (fun k_r_2 => ?_)
  obtain ⟨o_3, eo_3, hE⟩ := cl_e hE
  have m1 := moX10_lay eo_3
  have m2 := moX11_init_332 hE
  refine x_kVA (o := o_3) hkl (z_runV (As := [.ref r_2]) (rest := []) C (ct_X10_lay l X F k_r_1 k_r_2 eo_3) cw_X11_141 hW hZ k_r_1 (by decide) rfl rfl rfl hl.1 (Nat.le_of_ble_eq_true rfl) rfl dX11_init_329 ⟨Nat.le_of_ble_eq_true rfl, Nat.le_of_ble_eq_true rfl⟩ (rm_ok hkl m1 m2)) hZ (fun _ _ hW km hZ => ?_)
  replace hkl := hkl.tr km
  replace k_x0 := km.at k_x0 (by decide)
  exact bX11_init_332 C k_x0 hkl hW hZ _ (lv_sub hl [0] rfl) hE
set_option maxRecDepth 20000 in
theorem bX11_init_305 {p : Program} {l : Launch} {e : Env} {s : State} {m : MethodId} {args : Array Value} {below : List Frame} {meth : Method} {c : Code} {X : Ec} {h0 : Hp} {o : Hp} {F : Nat} (C : Cx X p s m args meth c RX11 cX11_init 2 none "<init>") {h : Hp} {x0 : Nat} {H : Heap} {locs : List Loc} (k_x0 : hK h x0 = 11) (hkl : Kl h0 h) (hW : Wx X h H) (hZ : va_S (aA (eB X)) s.heap H locs) (ls : Array Slot) (hl : lv_has ls 2 [(0, .ref x0)]) (hE : sX11_init_305 F h x0 = some o) : W p l e (rmA 9 205 h0 o) s m args below meth c H locs (hS h - hS h0) (hL h - hL h0) (MQ below (QVA X h0 o) args s (hS o - hS h0) (hL o - hL h0) (aA (eB X))) (F0 m 305 ls []) := by
  refine lv_aload_n C.1 C.2.1 dX11_init_305 rfl (lv_at hl 0 rfl) ?_
  obtain ⟨r_1, er_1, hE⟩ := cl_e hE
  refine gf_X11_34 C hW k_x0 er_1 dX11_init_306 (fun k_r_1 => ?_)
  refine lv_aload_n C.1 C.2.1 dX11_init_309 rfl (lv_at hl 0 rfl) ?_
  obtain ⟨r_2, er_2, hE⟩ := cl_e hE
  refine gf_X11_14 C hW k_x0 er_2 dX11_init_310 (fun k_r_2 => ?_)
  refine lv_aload_n C.1 C.2.1 dX11_init_313 rfl (lv_at hl 0 rfl) ?_
  obtain ⟨r_3, er_3, hE⟩ := cl_e hE
  refine gf_X11_24 C hW k_x0 er_3 dX11_init_314 (fun k_r_3 => ?_)
  obtain ⟨o_4, eo_4, hE⟩ := cl_e hE
  have m1 := moX2_read eo_4
  have m2 := moX11_init_320 hE
  refine x_kI (o := o_4) (z_runV (As := [.ref r_2, .ref r_3]) (rest := []) C (ct_X2_read l X F k_r_1 k_r_2 k_r_3 eo_4) cw_X11_137 hW hZ k_r_1 (by decide) rfl rfl rfl hl.1 (Nat.le_of_ble_eq_true rfl) rfl dX11_init_317 ⟨Nat.le_of_ble_eq_true rfl, Nat.le_of_ble_eq_true rfl⟩ (rm_ok0 hkl m1 m2)) hZ (fun _ _ hW km hZ => ?_)
  replace hkl := hkl.tr km.l
  refine x_wc km ?_
  replace k_x0 := km.at k_x0 (by decide)
  exact bX11_init_320 C k_x0 hkl hW hZ _ (lv_sub hl [0] rfl) hE
set_option maxRecDepth 20000 in
theorem bX11_init_296 {p : Program} {l : Launch} {e : Env} {s : State} {m : MethodId} {args : Array Value} {below : List Frame} {meth : Method} {c : Code} {X : Ec} {h0 : Hp} {o : Hp} {F : Nat} (C : Cx X p s m args meth c RX11 cX11_init 2 none "<init>") {h : Hp} {x0 : Nat} {H : Heap} {locs : List Loc} (k_x0 : hK h x0 = 11) (hkl : Kl h0 h) (hW : Wx X h H) (hZ : va_S (aA (eB X)) s.heap H locs) (ls : Array Slot) (hl : lv_has ls 2 [(0, .ref x0)]) (hE : sX11_init_296 F h x0 = some o) : W p l e (rmA 9 205 h0 o) s m args below meth c H locs (hS h - hS h0) (hL h - hL h0) (MQ below (QVA X h0 o) args s (hS o - hS h0) (hL o - hL h0) (aA (eB X))) (F0 m 296 ls []) := by
  refine lv_aload_n C.1 C.2.1 dX11_init_296 rfl (lv_at hl 0 rfl) ?_
  obtain ⟨r_1, er_1, hE⟩ := cl_e hE
  refine gf_X11_14 C hW k_x0 er_1 dX11_init_297 (fun k_r_1 => ?_)
  refine va_ldcS C.1 C.2.1 C.2.2.2.1 (C.2.2.2.2.2.2.2.2.1 2 (by decide)).2 dX11_init_300 ?_
  obtain ⟨o_2, eo_2, hE⟩ := cl_e hE
  have m1 := moX9_appendAll eo_2
  have m2 := moX11_init_305 hE
  refine x_kV (o := o_2) (z_runV (As := [.ref (X.2.2.2.1 2)]) (rest := []) C (ct_X9_appendAll l X F k_r_1 (by decide) eo_2) cw_X11_129 hW hZ k_r_1 (by decide) rfl rfl rfl hl.1 (Nat.le_of_ble_eq_true rfl) rfl dX11_init_302 ⟨Nat.le_of_ble_eq_true rfl, Nat.le_of_ble_eq_true rfl⟩ (rm_ok0 hkl m1 m2)) hZ (fun _ _ hW km hZ => ?_)
  replace hkl := hkl.tr km.l
  refine x_wc km ?_
  replace k_x0 := km.at k_x0 (by decide)
  exact bX11_init_305 C k_x0 hkl hW hZ _ (lv_sub hl [0] rfl) hE
set_option maxRecDepth 20000 in
theorem bX11_init_287 {p : Program} {l : Launch} {e : Env} {s : State} {m : MethodId} {args : Array Value} {below : List Frame} {meth : Method} {c : Code} {X : Ec} {h0 : Hp} {o : Hp} {F : Nat} (C : Cx X p s m args meth c RX11 cX11_init 2 none "<init>") {h : Hp} {x0 : Nat} {H : Heap} {locs : List Loc} (k_x0 : hK h x0 = 11) (hkl : Kl h0 h) (hW : Wx X h H) (hZ : va_S (aA (eB X)) s.heap H locs) (ls : Array Slot) (hl : lv_has ls 2 [(0, .ref x0)]) (hE : sX11_init_287 F h x0 = some o) : W p l e (rmA 9 205 h0 o) s m args below meth c H locs (hS h - hS h0) (hL h - hL h0) (MQ below (QVA X h0 o) args s (hS o - hS h0) (hL o - hL h0) (aA (eB X))) (F0 m 287 ls []) := by
  refine lv_aload_n C.1 C.2.1 dX11_init_287 rfl (lv_at hl 0 rfl) ?_
  obtain ⟨r_1, er_1, hE⟩ := cl_e hE
  refine gf_X11_14 C hW k_x0 er_1 dX11_init_288 (fun k_r_1 => ?_)
  refine va_ldcS C.1 C.2.1 C.2.2.2.1 (C.2.2.2.2.2.2.2.2.1 1 (by decide)).2 dX11_init_291 ?_
  obtain ⟨o_2, eo_2, hE⟩ := cl_e hE
  have m1 := moX9_appendAll eo_2
  have m2 := moX11_init_296 hE
  refine x_kV (o := o_2) (z_runV (As := [.ref (X.2.2.2.1 1)]) (rest := []) C (ct_X9_appendAll l X F k_r_1 (by decide) eo_2) cw_X11_129 hW hZ k_r_1 (by decide) rfl rfl rfl hl.1 (Nat.le_of_ble_eq_true rfl) rfl dX11_init_293 ⟨Nat.le_of_ble_eq_true rfl, Nat.le_of_ble_eq_true rfl⟩ (rm_ok0 hkl m1 m2)) hZ (fun _ _ hW km hZ => ?_)
  replace hkl := hkl.tr km.l
  refine x_wc km ?_
  replace k_x0 := km.at k_x0 (by decide)
  exact bX11_init_296 C k_x0 hkl hW hZ _ (lv_sub hl [0] rfl) hE
set_option maxRecDepth 20000 in
theorem bX11_init_278 {p : Program} {l : Launch} {e : Env} {s : State} {m : MethodId} {args : Array Value} {below : List Frame} {meth : Method} {c : Code} {X : Ec} {h0 : Hp} {o : Hp} {F : Nat} (C : Cx X p s m args meth c RX11 cX11_init 2 none "<init>") {h : Hp} {x0 : Nat} {H : Heap} {locs : List Loc} (k_x0 : hK h x0 = 11) (hkl : Kl h0 h) (hW : Wx X h H) (hZ : va_S (aA (eB X)) s.heap H locs) (ls : Array Slot) (hl : lv_has ls 2 [(0, .ref x0)]) (hE : sX11_init_278 F h x0 = some o) : W p l e (rmA 9 205 h0 o) s m args below meth c H locs (hS h - hS h0) (hL h - hL h0) (MQ below (QVA X h0 o) args s (hS o - hS h0) (hL o - hL h0) (aA (eB X))) (F0 m 278 ls []) := by
  refine lv_aload_n C.1 C.2.1 dX11_init_278 rfl (lv_at hl 0 rfl) ?_
  obtain ⟨r_1, er_1, hE⟩ := cl_e hE
  refine gf_X11_14 C hW k_x0 er_1 dX11_init_279 (fun k_r_1 => ?_)
  refine va_ldcS C.1 C.2.1 C.2.2.2.1 (C.2.2.2.2.2.2.2.2.1 0 (by decide)).2 dX11_init_282 ?_
  obtain ⟨o_2, eo_2, hE⟩ := cl_e hE
  have m1 := moX9_appendAll eo_2
  have m2 := moX11_init_287 hE
  refine x_kV (o := o_2) (z_runV (As := [.ref (X.2.2.2.1 0)]) (rest := []) C (ct_X9_appendAll l X F k_r_1 (by decide) eo_2) cw_X11_129 hW hZ k_r_1 (by decide) rfl rfl rfl hl.1 (Nat.le_of_ble_eq_true rfl) rfl dX11_init_284 ⟨Nat.le_of_ble_eq_true rfl, Nat.le_of_ble_eq_true rfl⟩ (rm_ok0 hkl m1 m2)) hZ (fun _ _ hW km hZ => ?_)
  replace hkl := hkl.tr km.l
  refine x_wc km ?_
  replace k_x0 := km.at k_x0 (by decide)
  exact bX11_init_287 C k_x0 hkl hW hZ _ (lv_sub hl [0] rfl) hE
set_option maxRecDepth 20000 in
theorem bX11_init_263 {p : Program} {l : Launch} {e : Env} {s : State} {m : MethodId} {args : Array Value} {below : List Frame} {meth : Method} {c : Code} {X : Ec} {h0 : Hp} {o : Hp} {k_245 : Hp → Nat → Int32 → Option (Hp)} {F : Nat} (C : Cx X p s m args meth c RX11 cX11_init 2 none "<init>") (hk_245 : ∀ (h : Hp) (x0 : Nat) (x1 : Int32) (H : Heap) (locs : List Loc), hK h x0 = 11 → Kl h0 h → Wx X h H → va_S (aA (eB X)) s.heap H locs → ∀ (ls : Array Slot), lv_has ls 2 [(0, .ref x0), (1, .int x1)] → k_245 h x0 x1 = some o → W p l e (rmA 9 205 h0 o) s m args below meth c H locs (hS h - hS h0) (hL h - hL h0) (MQ below (QVA X h0 o) args s (hS o - hS h0) (hL o - hL h0) (aA (eB X))) (F0 m 245 ls [])) (mk_245 : ∀ (h : Hp) (x0 : Nat) (x1 : Int32), k_245 h x0 x1 = some o → Le h o) {h : Hp} {x0 : Nat} {x1 : Int32} {t0 : Nat} {t1 : Int32} {t2 : Nat} {H : Heap} {locs : List Loc} (k_x0 : hK h x0 = 11) (k_t0 : hK h t0 = 3) (k_t2 : hK h t2 = 20) (hkl : Kl h0 h) (hW : Wx X h H) (hZ : va_S (aA (eB X)) s.heap H locs) (ls : Array Slot) (hl : lv_has ls 2 [(0, .ref x0), (1, .int x1)]) (hE : sX11_init_263 F k_245 h x0 x1 t0 t1 t2 = some o) : W p l e (rmA 9 205 h0 o) s m args below meth c H locs (hS h - hS h0) (hL h - hL h0) (MQ below (QVA X h0 o) args s (hS o - hS h0) (hL o - hL h0) (aA (eB X))) (F0 m 263 ls [.ref t0, .int t1, .ref t2]) := by
  obtain ⟨g_1, hE⟩ := gd_e hE
  obtain ⟨h_2, eh_2, hE⟩ := nm_e2 hE
  refine y_aast (t0 := 4) C hW hZ k_t2 (by decide) (by decide) rfl k_t0 (by decide) rfl (fun _ => rfl) g_1 eh_2 dX11_init_263 (fun _ _ hW km hZ => ?_)
  replace hkl := hkl.tr km.l
  refine x_wc km ?_
  replace k_x0 := km.at k_x0 (by decide)
  obtain ⟨v_3, ev_3, hE⟩ := nm_e2 hE
  refine lv_iinc (v := v_3) (lv' := [(1, .int v_3), (0, .ref x0)]) C.1 C.2.1 dX11_init_264 hl (k := 1) rfl (by rw [ev_3]; rfl) (by decide) rfl (fun ls hl => ?_)
  refine lv_goto (tgt := 245) C.1 C.2.1 dX11_init_267 (by decide) ?_
  exact hk_245 _ _ _ _ _ k_x0 hkl hW hZ _ (lv_sub hl [1, 0] rfl) hE
set_option maxRecDepth 20000 in
theorem bX11_init_259 {p : Program} {l : Launch} {e : Env} {s : State} {m : MethodId} {args : Array Value} {below : List Frame} {meth : Method} {c : Code} {X : Ec} {h0 : Hp} {o : Hp} {k_245 : Hp → Nat → Int32 → Option (Hp)} {F : Nat} (C : Cx X p s m args meth c RX11 cX11_init 2 none "<init>") (hk_245 : ∀ (h : Hp) (x0 : Nat) (x1 : Int32) (H : Heap) (locs : List Loc), hK h x0 = 11 → Kl h0 h → Wx X h H → va_S (aA (eB X)) s.heap H locs → ∀ (ls : Array Slot), lv_has ls 2 [(0, .ref x0), (1, .int x1)] → k_245 h x0 x1 = some o → W p l e (rmA 9 205 h0 o) s m args below meth c H locs (hS h - hS h0) (hL h - hL h0) (MQ below (QVA X h0 o) args s (hS o - hS h0) (hL o - hL h0) (aA (eB X))) (F0 m 245 ls [])) (mk_245 : ∀ (h : Hp) (x0 : Nat) (x1 : Int32), k_245 h x0 x1 = some o → Le h o) {h : Hp} {x0 : Nat} {x1 : Int32} {t0 : Nat} {t1 : Int32} {t2 : Nat} {H : Heap} {locs : List Loc} (k_x0 : hK h x0 = 11) (k_t0 : hK h t0 = 3) (k_t2 : hK h t2 = 20) (hkl : Kl h0 h) (hW : Wx X h H) (hZ : va_S (aA (eB X)) s.heap H locs) (ls : Array Slot) (hl : lv_has ls 2 [(0, .ref x0), (1, .int x1)]) (hE : sX11_init_259 F k_245 h x0 x1 t0 t1 t2 = some o) : W p l e (rmA 9 205 h0 o) s m args below meth c H locs (hS h - hS h0) (hL h - hL h0) (MQ below (QVA X h0 o) args s (hS o - hS h0) (hL o - hL h0) (aA (eB X))) (F0 m 259 ls [.ref t0, .int t1, .ref t2]) := by
  refine lv_dup C.1 C.2.1 dX11_init_259 rfl ?_
  obtain ⟨o_1, eo_1, hE⟩ := cl_e hE
  have m1 := moX3_init eo_1
  have m2 := moX11_init_263 mk_245 hE
  refine x_kVA (o := o_1) hkl (z_runI (As := []) (rest := [.ref t0, .int t1, .ref t2]) C (ct_X3_init l X F k_t0 eo_1) ci_X11_120 hW hZ rfl hl.1 (Nat.le_of_ble_eq_true rfl) rfl dX11_init_260 ⟨Nat.le_of_ble_eq_true rfl, Nat.le_of_ble_eq_true rfl⟩ (rm_ok hkl m1 m2)) hZ (fun _ _ hW km hZ => ?_)
  replace hkl := hkl.tr km
  replace k_x0 := km.at k_x0 (by decide)
  replace k_t0 := km.at k_t0 (by decide)
  replace k_t2 := km.at k_t2 (by decide)
  exact bX11_init_263 C hk_245 mk_245 k_x0 k_t0 k_t2 hkl hW hZ _ (lv_sub hl [0, 1] rfl) hE
set_option maxRecDepth 20000 in
theorem bX11_init_245 {p : Program} {l : Launch} {e : Env} {s : State} {m : MethodId} {args : Array Value} {below : List Frame} {meth : Method} {c : Code} {X : Ec} {h0 : Hp} {o : Hp} {F : Nat} (C : Cx X p s m args meth c RX11 cX11_init 2 none "<init>") : ∀ (f : Nat) {h : Hp} {x0 : Nat} {x1 : Int32} {H : Heap} {locs : List Loc} (k_x0 : hK h x0 = 11), Kl h0 h → Wx X h H → va_S (aA (eB X)) s.heap H locs → ∀ (ls : Array Slot), lv_has ls 2 [(0, .ref x0), (1, .int x1)] → sX11_init_245 F f h x0 x1 = some o → W p l e (rmA 9 205 h0 o) s m args below meth c H locs (hS h - hS h0) (hL h - hL h0) (MQ below (QVA X h0 o) args s (hS o - hS h0) (hL o - hL h0) (aA (eB X))) (F0 m 245 ls []) := by
  intro f
  induction f with
  | zero =>
    intro h x0 x1 H locs k_x0 hkl hW hZ ls hl hE
    rw [sX11_init_245] at hE
    cases hE
  | succ f ih =>
    intro h x0 x1 H locs k_x0 hkl hW hZ ls hl hE
    rw [sX11_init_245] at hE
    have mk_245 : ∀ (h : Hp) (x0 : Nat) (x1 : Int32), sX11_init_245 F f h x0 x1 = some o → Le h o := fun h x0 x1 hE => moX11_init_245 _ hE
    have hk_245 : ∀ (h : Hp) (x0 : Nat) (x1 : Int32) (H : Heap) (locs : List Loc), hK h x0 = 11 → Kl h0 h → Wx X h H → va_S (aA (eB X)) s.heap H locs → ∀ (ls : Array Slot), lv_has ls 2 [(0, .ref x0), (1, .int x1)] → sX11_init_245 F f h x0 x1 = some o → W p l e (rmA 9 205 h0 o) s m args below meth c H locs (hS h - hS h0) (hL h - hL h0) (MQ below (QVA X h0 o) args s (hS o - hS h0) (hL o - hL h0) (aA (eB X))) (F0 m 245 ls []) := fun h x0 x1 H locs k_x0 a b c ls hl hE => ih k_x0 a b c ls hl hE
    refine lv_iload_n C.1 C.2.1 dX11_init_245 rfl (lv_at hl 1 rfl) ?_
    refine lv_bipush (v := (60 : Int32)) C.1 C.2.1 dX11_init_246 (by decide) ?_
    refine lv_icmp_ge (tgt := 270) C.1 C.2.1 dX11_init_248 (by decide) (fun c_1 => ?_) (fun c_1 => ?_)
    · have hE := br_p hE c_1
      refine lv_aload_n C.1 C.2.1 dX11_init_270 rfl (lv_at hl 0 rfl) ?_
      obtain ⟨r_2, er_2, hE⟩ := cl_e hE
      refine gf_X11_117 C hW k_x0 er_2 dX11_init_271 (fun k_r_2 => ?_)
      refine lv_iconst (v := (-1 : Int32)) C.1 C.2.1 dX11_init_274 (by decide) ?_
      obtain ⟨o_3, eo_3, hE⟩ := cl_e hE
      have m1 := moJ7_fill_53178 eo_3
      have m2 := moX11_init_278 hE
      refine x_kV (o := o_3) (z_runS (As := [.ref r_2, .int (-1 : Int32)]) (rest := []) C (ct_J7_fill_53178 l X F k_r_2 eo_3) cw_X11_121 hW hZ rfl hl.1 (Nat.le_of_ble_eq_true rfl) rfl dX11_init_275 ⟨Nat.le_of_ble_eq_true rfl, Nat.le_of_ble_eq_true rfl⟩ (rm_ok0 hkl m1 m2)) hZ (fun _ _ hW km hZ => ?_)
      replace hkl := hkl.tr km.l
      refine x_wc km ?_
      replace k_x0 := km.at k_x0 (by decide)
      exact bX11_init_278 C k_x0 hkl hW hZ _ (lv_sub hl [0] rfl) hE
    · have hE := br_n hE c_1
      refine lv_aload_n C.1 C.2.1 dX11_init_251 rfl (lv_at hl 0 rfl) ?_
      obtain ⟨r_4, er_4, hE⟩ := cl_e hE
      refine gf_X11_103 C hW k_x0 er_4 dX11_init_252 (fun k_r_4 => ?_)
      refine lv_iload_n C.1 C.2.1 dX11_init_255 rfl (lv_at hl 1 rfl) ?_
      obtain ⟨a_5, ea_5, hE⟩ := nm_e2 hE
      obtain ⟨h_6, eh_6, hE⟩ := nm_e2 hE
      refine y_new C hW hZ hkl (moX11_init_259 mk_245 hE) ⟨rfl, rfl⟩ i_X3 tyX3 tyX3_ok (by decide) rfl rfl dv_X3 m_581 m_265 m_8 eh_6 dX11_init_256 (fun _ hW km k_a_5 hZ => ?_)
      replace hkl := hkl.tr km
      refine x_nmA ea_5 ?_
      rw [← ea_5] at k_a_5
      replace k_x0 := km.at k_x0 (by decide)
      replace k_r_4 := km.at k_r_4 (by decide)
      exact bX11_init_259 C hk_245 mk_245 k_x0 k_a_5 k_r_4 hkl hW hZ _ (lv_sub hl [0, 1] rfl) hE
set_option maxRecDepth 20000 in
theorem bX11_init_240 {p : Program} {l : Launch} {e : Env} {s : State} {m : MethodId} {args : Array Value} {below : List Frame} {meth : Method} {c : Code} {X : Ec} {h0 : Hp} {o : Hp} {F : Nat} (C : Cx X p s m args meth c RX11 cX11_init 2 none "<init>") {h : Hp} {x0 : Nat} {t0 : Nat} {t1 : Nat} {H : Heap} {locs : List Loc} (k_x0 : hK h x0 = 11) (k_t0 : hK h t0 = 17) (k_t1 : hK h t1 = 11) (hkl : Kl h0 h) (hW : Wx X h H) (hZ : va_S (aA (eB X)) s.heap H locs) (ls : Array Slot) (hl : lv_has ls 2 [(0, .ref x0)]) (hE : sX11_init_240 F h x0 t0 t1 = some o) : W p l e (rmA 9 205 h0 o) s m args below meth c H locs (hS h - hS h0) (hL h - hL h0) (MQ below (QVA X h0 o) args s (hS o - hS h0) (hL o - hL h0) (aA (eB X))) (F0 m 240 ls [.ref t0, .ref t1]) := by
  obtain ⟨h_1, eh_1, hE⟩ := nm_e2 hE
  refine pf_X11_117 C hW hZ rfl k_t1 k_t0 eh_1 dX11_init_240 (fun _ _ hW km hZ => ?_)
  replace hkl := hkl.tr km.l
  refine x_wc km ?_
  replace k_x0 := km.at k_x0 (by decide)
  refine lv_iconst (v := (0 : Int32)) C.1 C.2.1 dX11_init_243 (by decide) ?_
  refine lv_istore_n (lv' := [(1, .int (0 : Int32)), (0, .ref x0)]) C.1 C.2.1 dX11_init_244 rfl hl (by decide) rfl (fun ls hl => ?_)
  exact bX11_init_245 C F k_x0 hkl hW hZ _ (lv_sub hl [1, 0] rfl) hE
set_option maxRecDepth 20000 in
theorem bX11_init_232 {p : Program} {l : Launch} {e : Env} {s : State} {m : MethodId} {args : Array Value} {below : List Frame} {meth : Method} {c : Code} {X : Ec} {h0 : Hp} {o : Hp} {F : Nat} (C : Cx X p s m args meth c RX11 cX11_init 2 none "<init>") {h : Hp} {x0 : Nat} {t0 : Nat} {t1 : Nat} {H : Heap} {locs : List Loc} (k_x0 : hK h x0 = 11) (k_t0 : hK h t0 = 17) (k_t1 : hK h t1 = 11) (hkl : Kl h0 h) (hW : Wx X h H) (hZ : va_S (aA (eB X)) s.heap H locs) (ls : Array Slot) (hl : lv_has ls 2 [(0, .ref x0)]) (hE : sX11_init_232 F h x0 t0 t1 = some o) : W p l e (rmA 9 205 h0 o) s m args below meth c H locs (hS h - hS h0) (hL h - hL h0) (MQ below (QVA X h0 o) args s (hS o - hS h0) (hL o - hL h0) (aA (eB X))) (F0 m 232 ls [.ref t0, .ref t1]) := by
  obtain ⟨h_1, eh_1, hE⟩ := nm_e2 hE
  refine pf_X11_114 C hW hZ rfl k_t1 k_t0 eh_1 dX11_init_232 (fun _ _ hW km hZ => ?_)
  replace hkl := hkl.tr km.l
  refine x_wc km ?_
  replace k_x0 := km.at k_x0 (by decide)
  refine lv_aload_n C.1 C.2.1 dX11_init_235 rfl (lv_at hl 0 rfl) ?_
  refine lv_bipush (v := (8 : Int32)) C.1 C.2.1 dX11_init_236 (by decide) ?_
  obtain ⟨a_2, ea_2, hE⟩ := nm_e2 hE
  obtain ⟨h_3, eh_3, hE⟩ := nm_e2 hE
  refine y_newa (k := 17) (ty := .int) (t0 := 1) C hW hZ hkl (moX11_init_240 hE) ⟨rfl, rfl⟩ (by decide) (by decide) rfl rfl (by intro C hC; cases hC) hdef_17 m_54 (by decide) (by decide) eh_3 dX11_init_238 (fun _ hW km k_a_2 hZ => ?_)
  replace hkl := hkl.tr km
  refine x_nmA ea_2 ?_
  rw [← ea_2] at k_a_2
  replace k_x0 := km.at k_x0 (by decide)
  exact bX11_init_240 C k_x0 k_a_2 k_x0 hkl hW hZ _ (lv_sub hl [0] rfl) hE
set_option maxRecDepth 20000 in
theorem bX11_init_223 {p : Program} {l : Launch} {e : Env} {s : State} {m : MethodId} {args : Array Value} {below : List Frame} {meth : Method} {c : Code} {X : Ec} {h0 : Hp} {o : Hp} {F : Nat} (C : Cx X p s m args meth c RX11 cX11_init 2 none "<init>") {h : Hp} {x0 : Nat} {t0 : Nat} {t1 : Nat} {H : Heap} {locs : List Loc} (k_x0 : hK h x0 = 11) (k_t0 : hK h t0 = 20) (k_t1 : hK h t1 = 11) (hkl : Kl h0 h) (hW : Wx X h H) (hZ : va_S (aA (eB X)) s.heap H locs) (ls : Array Slot) (hl : lv_has ls 2 [(0, .ref x0)]) (hE : sX11_init_223 F h x0 t0 t1 = some o) : W p l e (rmA 9 205 h0 o) s m args below meth c H locs (hS h - hS h0) (hL h - hL h0) (MQ below (QVA X h0 o) args s (hS o - hS h0) (hL o - hL h0) (aA (eB X))) (F0 m 223 ls [.ref t0, .ref t1]) := by
  obtain ⟨h_1, eh_1, hE⟩ := nm_e2 hE
  refine pf_X11_111 C hW hZ rfl k_t1 k_t0 eh_1 dX11_init_223 (fun _ _ hW km hZ => ?_)
  replace hkl := hkl.tr km.l
  refine x_wc km ?_
  replace k_x0 := km.at k_x0 (by decide)
  refine lv_aload_n C.1 C.2.1 dX11_init_226 rfl (lv_at hl 0 rfl) ?_
  refine lv_sipush (v := (2408 : Int32)) C.1 C.2.1 dX11_init_227 (by decide) ?_
  obtain ⟨a_2, ea_2, hE⟩ := nm_e2 hE
  obtain ⟨h_3, eh_3, hE⟩ := nm_e2 hE
  refine y_newa (k := 17) (ty := .int) (t0 := 1) C hW hZ hkl (moX11_init_232 hE) ⟨rfl, rfl⟩ (by decide) (by decide) rfl rfl (by intro C hC; cases hC) hdef_17 m_54 (by decide) (by decide) eh_3 dX11_init_230 (fun _ hW km k_a_2 hZ => ?_)
  replace hkl := hkl.tr km
  refine x_nmA ea_2 ?_
  rw [← ea_2] at k_a_2
  replace k_x0 := km.at k_x0 (by decide)
  exact bX11_init_232 C k_x0 k_a_2 k_x0 hkl hW hZ _ (lv_sub hl [0] rfl) hE
set_option maxRecDepth 20000 in
theorem bX11_init_213 {p : Program} {l : Launch} {e : Env} {s : State} {m : MethodId} {args : Array Value} {below : List Frame} {meth : Method} {c : Code} {X : Ec} {h0 : Hp} {o : Hp} {F : Nat} (C : Cx X p s m args meth c RX11 cX11_init 2 none "<init>") {h : Hp} {x0 : Nat} {t0 : Nat} {t1 : Nat} {H : Heap} {locs : List Loc} (k_x0 : hK h x0 = 11) (k_t0 : hK h t0 = 19) (k_t1 : hK h t1 = 11) (hkl : Kl h0 h) (hW : Wx X h H) (hZ : va_S (aA (eB X)) s.heap H locs) (ls : Array Slot) (hl : lv_has ls 2 [(0, .ref x0)]) (hE : sX11_init_213 F h x0 t0 t1 = some o) : W p l e (rmA 9 205 h0 o) s m args below meth c H locs (hS h - hS h0) (hL h - hL h0) (MQ below (QVA X h0 o) args s (hS o - hS h0) (hL o - hL h0) (aA (eB X))) (F0 m 213 ls [.ref t0, .ref t1]) := by
  obtain ⟨h_1, eh_1, hE⟩ := nm_e2 hE
  refine pf_X11_107 C hW hZ rfl k_t1 k_t0 eh_1 dX11_init_213 (fun _ _ hW km hZ => ?_)
  replace hkl := hkl.tr km.l
  refine x_wc km ?_
  replace k_x0 := km.at k_x0 (by decide)
  refine lv_aload_n C.1 C.2.1 dX11_init_216 rfl (lv_at hl 0 rfl) ?_
  refine lv_sipush (v := (2408 : Int32)) C.1 C.2.1 dX11_init_217 (by decide) ?_
  obtain ⟨a_2, ea_2, hE⟩ := nm_e2 hE
  obtain ⟨h_3, eh_3, hE⟩ := nm_e2 hE
  refine y_newq (k := 20) (t0 := 4) C hW hZ hkl (moX11_init_223 hE) ⟨rfl, rfl⟩ (by decide) (by decide) rfl m_581 C.2.2.2.2.2.2.2.2.2.2.2.2.2.1 (by decide) (by decide) eh_3 dX11_init_220 (fun _ hW km k_a_2 hZ => ?_)
  replace hkl := hkl.tr km
  refine x_nmA ea_2 ?_
  rw [← ea_2] at k_a_2
  replace k_x0 := km.at k_x0 (by decide)
  exact bX11_init_223 C k_x0 k_a_2 k_x0 hkl hW hZ _ (lv_sub hl [0] rfl) hE
set_option maxRecDepth 20000 in
theorem bX11_init_205 {p : Program} {l : Launch} {e : Env} {s : State} {m : MethodId} {args : Array Value} {below : List Frame} {meth : Method} {c : Code} {X : Ec} {h0 : Hp} {o : Hp} {F : Nat} (C : Cx X p s m args meth c RX11 cX11_init 2 none "<init>") {h : Hp} {x0 : Nat} {t0 : Nat} {t1 : Nat} {H : Heap} {locs : List Loc} (k_x0 : hK h x0 = 11) (k_t0 : hK h t0 = 20) (k_t1 : hK h t1 = 11) (hkl : Kl h0 h) (hW : Wx X h H) (hZ : va_S (aA (eB X)) s.heap H locs) (ls : Array Slot) (hl : lv_has ls 2 [(0, .ref x0)]) (hE : sX11_init_205 F h x0 t0 t1 = some o) : W p l e (rmA 9 205 h0 o) s m args below meth c H locs (hS h - hS h0) (hL h - hL h0) (MQ below (QVA X h0 o) args s (hS o - hS h0) (hL o - hL h0) (aA (eB X))) (F0 m 205 ls [.ref t0, .ref t1]) := by
  obtain ⟨h_1, eh_1, hE⟩ := nm_e2 hE
  refine pf_X11_103 C hW hZ rfl k_t1 k_t0 eh_1 dX11_init_205 (fun _ _ hW km hZ => ?_)
  replace hkl := hkl.tr km.l
  refine x_wc km ?_
  replace k_x0 := km.at k_x0 (by decide)
  refine lv_aload_n C.1 C.2.1 dX11_init_208 rfl (lv_at hl 0 rfl) ?_
  refine lv_bipush (v := (60 : Int32)) C.1 C.2.1 dX11_init_209 (by decide) ?_
  obtain ⟨a_2, ea_2, hE⟩ := nm_e2 hE
  obtain ⟨h_3, eh_3, hE⟩ := nm_e2 hE
  refine y_newa (k := 19) (ty := .boolean) (t0 := 3) C hW hZ hkl (moX11_init_213 hE) ⟨rfl, rfl⟩ (by decide) (by decide) rfl rfl (by intro C hC; cases hC) hdef_19 m_907 (by decide) (by decide) eh_3 dX11_init_211 (fun _ hW km k_a_2 hZ => ?_)
  replace hkl := hkl.tr km
  refine x_nmA ea_2 ?_
  rw [← ea_2] at k_a_2
  replace k_x0 := km.at k_x0 (by decide)
  exact bX11_init_213 C k_x0 k_a_2 k_x0 hkl hW hZ _ (lv_sub hl [0] rfl) hE
set_option maxRecDepth 20000 in
theorem bX11_init_196 {p : Program} {l : Launch} {e : Env} {s : State} {m : MethodId} {args : Array Value} {below : List Frame} {meth : Method} {c : Code} {X : Ec} {h0 : Hp} {o : Hp} {F : Nat} (C : Cx X p s m args meth c RX11 cX11_init 2 none "<init>") {h : Hp} {x0 : Nat} {t0 : Nat} {t1 : Nat} {H : Heap} {locs : List Loc} (k_x0 : hK h x0 = 11) (k_t0 : hK h t0 = 17) (k_t1 : hK h t1 = 11) (hkl : Kl h0 h) (hW : Wx X h H) (hZ : va_S (aA (eB X)) s.heap H locs) (ls : Array Slot) (hl : lv_has ls 2 [(0, .ref x0)]) (hE : sX11_init_196 F h x0 t0 t1 = some o) : W p l e (rmA 9 205 h0 o) s m args below meth c H locs (hS h - hS h0) (hL h - hL h0) (MQ below (QVA X h0 o) args s (hS o - hS h0) (hL o - hL h0) (aA (eB X))) (F0 m 196 ls [.ref t0, .ref t1]) := by
  obtain ⟨h_1, eh_1, hE⟩ := nm_e2 hE
  refine pf_X11_97 C hW hZ rfl k_t1 k_t0 eh_1 dX11_init_196 (fun _ _ hW km hZ => ?_)
  replace hkl := hkl.tr km.l
  refine x_wc km ?_
  replace k_x0 := km.at k_x0 (by decide)
  refine lv_aload_n C.1 C.2.1 dX11_init_199 rfl (lv_at hl 0 rfl) ?_
  refine lv_bipush (v := (60 : Int32)) C.1 C.2.1 dX11_init_200 (by decide) ?_
  obtain ⟨a_2, ea_2, hE⟩ := nm_e2 hE
  obtain ⟨h_3, eh_3, hE⟩ := nm_e2 hE
  refine y_newq (k := 20) (t0 := 4) C hW hZ hkl (moX11_init_205 hE) ⟨rfl, rfl⟩ (by decide) (by decide) rfl m_581 C.2.2.2.2.2.2.2.2.2.2.2.2.2.1 (by decide) (by decide) eh_3 dX11_init_202 (fun _ hW km k_a_2 hZ => ?_)
  replace hkl := hkl.tr km
  refine x_nmA ea_2 ?_
  rw [← ea_2] at k_a_2
  replace k_x0 := km.at k_x0 (by decide)
  exact bX11_init_205 C k_x0 k_a_2 k_x0 hkl hW hZ _ (lv_sub hl [0] rfl) hE
set_option maxRecDepth 20000 in
theorem bX11_init_187 {p : Program} {l : Launch} {e : Env} {s : State} {m : MethodId} {args : Array Value} {below : List Frame} {meth : Method} {c : Code} {X : Ec} {h0 : Hp} {o : Hp} {F : Nat} (C : Cx X p s m args meth c RX11 cX11_init 2 none "<init>") {h : Hp} {x0 : Nat} {t0 : Nat} {t1 : Nat} {H : Heap} {locs : List Loc} (k_x0 : hK h x0 = 11) (k_t0 : hK h t0 = 4) (k_t1 : hK h t1 = 11) (hkl : Kl h0 h) (hW : Wx X h H) (hZ : va_S (aA (eB X)) s.heap H locs) (ls : Array Slot) (hl : lv_has ls 2 [(0, .ref x0)]) (hE : sX11_init_187 F h x0 t0 t1 = some o) : W p l e (rmA 9 205 h0 o) s m args below meth c H locs (hS h - hS h0) (hL h - hL h0) (MQ below (QVA X h0 o) args s (hS o - hS h0) (hL o - hL h0) (aA (eB X))) (F0 m 187 ls [.ref t0, .ref t1]) := by
  obtain ⟨h_1, eh_1, hE⟩ := nm_e2 hE
  refine pf_X11_93 C hW hZ rfl k_t1 k_t0 eh_1 dX11_init_187 (fun _ _ hW km hZ => ?_)
  replace hkl := hkl.tr km.l
  refine x_wc km ?_
  replace k_x0 := km.at k_x0 (by decide)
  refine lv_aload_n C.1 C.2.1 dX11_init_190 rfl (lv_at hl 0 rfl) ?_
  refine lv_sipush (v := (4096 : Int32)) C.1 C.2.1 dX11_init_191 (by decide) ?_
  obtain ⟨a_2, ea_2, hE⟩ := nm_e2 hE
  obtain ⟨h_3, eh_3, hE⟩ := nm_e2 hE
  refine y_newa (k := 17) (ty := .int) (t0 := 1) C hW hZ hkl (moX11_init_196 hE) ⟨rfl, rfl⟩ (by decide) (by decide) rfl rfl (by intro C hC; cases hC) hdef_17 m_54 (by decide) (by decide) eh_3 dX11_init_194 (fun _ hW km k_a_2 hZ => ?_)
  replace hkl := hkl.tr km
  refine x_nmA ea_2 ?_
  rw [← ea_2] at k_a_2
  replace k_x0 := km.at k_x0 (by decide)
  exact bX11_init_196 C k_x0 k_a_2 k_x0 hkl hW hZ _ (lv_sub hl [0] rfl) hE
set_option maxRecDepth 20000 in
theorem bX11_init_179 {p : Program} {l : Launch} {e : Env} {s : State} {m : MethodId} {args : Array Value} {below : List Frame} {meth : Method} {c : Code} {X : Ec} {h0 : Hp} {o : Hp} {F : Nat} (C : Cx X p s m args meth c RX11 cX11_init 2 none "<init>") {h : Hp} {x0 : Nat} {t0 : Nat} {t1 : Nat} {H : Heap} {locs : List Loc} (k_x0 : hK h x0 = 11) (k_t0 : hK h t0 = 4) (k_t1 : hK h t1 = 11) (hkl : Kl h0 h) (hW : Wx X h H) (hZ : va_S (aA (eB X)) s.heap H locs) (ls : Array Slot) (hl : lv_has ls 2 [(0, .ref x0)]) (hE : sX11_init_179 F h x0 t0 t1 = some o) : W p l e (rmA 9 205 h0 o) s m args below meth c H locs (hS h - hS h0) (hL h - hL h0) (MQ below (QVA X h0 o) args s (hS o - hS h0) (hL o - hL h0) (aA (eB X))) (F0 m 179 ls [.ref t0, .ref t1]) := by
  refine lv_dup C.1 C.2.1 dX11_init_179 rfl ?_
  refine lv_aload_n C.1 C.2.1 dX11_init_180 rfl (lv_at hl 0 rfl) ?_
  obtain ⟨r_1, er_1, hE⟩ := cl_e hE
  refine gf_X11_50 C hW k_x0 er_1 dX11_init_181 (fun k_r_1 => ?_)
  obtain ⟨o_2, eo_2, hE⟩ := cl_e hE
  have m1 := moX4_init eo_2
  have m2 := moX11_init_187 hE
  refine x_kVA (o := o_2) hkl (z_runI (As := [.ref r_1]) (rest := [.ref t0, .ref t1]) C (ct_X4_init l X F k_t0 k_r_1 eo_2) ci_X11_90 hW hZ rfl hl.1 (Nat.le_of_ble_eq_true rfl) rfl dX11_init_184 ⟨Nat.le_of_ble_eq_true rfl, Nat.le_of_ble_eq_true rfl⟩ (rm_ok hkl m1 m2)) hZ (fun _ _ hW km hZ => ?_)
  replace hkl := hkl.tr km
  replace k_x0 := km.at k_x0 (by decide)
  replace k_t0 := km.at k_t0 (by decide)
  replace k_t1 := km.at k_t1 (by decide)
  exact bX11_init_187 C k_x0 k_t0 k_t1 hkl hW hZ _ (lv_sub hl [0] rfl) hE
set_option maxRecDepth 20000 in
theorem bX11_init_172 {p : Program} {l : Launch} {e : Env} {s : State} {m : MethodId} {args : Array Value} {below : List Frame} {meth : Method} {c : Code} {X : Ec} {h0 : Hp} {o : Hp} {F : Nat} (C : Cx X p s m args meth c RX11 cX11_init 2 none "<init>") {h : Hp} {x0 : Nat} {t0 : Nat} {t1 : Nat} {H : Heap} {locs : List Loc} (k_x0 : hK h x0 = 11) (k_t0 : hK h t0 = 0) (k_t1 : hK h t1 = 11) (hkl : Kl h0 h) (hW : Wx X h H) (hZ : va_S (aA (eB X)) s.heap H locs) (ls : Array Slot) (hl : lv_has ls 2 [(0, .ref x0)]) (hE : sX11_init_172 F h x0 t0 t1 = some o) : W p l e (rmA 9 205 h0 o) s m args below meth c H locs (hS h - hS h0) (hL h - hL h0) (MQ below (QVA X h0 o) args s (hS o - hS h0) (hL o - hL h0) (aA (eB X))) (F0 m 172 ls [.ref t0, .ref t1]) := by
  obtain ⟨h_1, eh_1, hE⟩ := nm_e2 hE
  refine pf_X11_84 C hW hZ rfl k_t1 k_t0 eh_1 dX11_init_172 (fun _ _ hW km hZ => ?_)
  replace hkl := hkl.tr km.l
  refine x_wc km ?_
  replace k_x0 := km.at k_x0 (by decide)
  refine lv_aload_n C.1 C.2.1 dX11_init_175 rfl (lv_at hl 0 rfl) ?_
  obtain ⟨a_2, ea_2, hE⟩ := nm_e2 hE
  obtain ⟨h_3, eh_3, hE⟩ := nm_e2 hE
  refine y_new C hW hZ hkl (moX11_init_179 hE) ⟨rfl, rfl⟩ i_X4 tyX4 tyX4_ok (by decide) rfl rfl dv_X4 m_517 m_518 m_14 eh_3 dX11_init_176 (fun _ hW km k_a_2 hZ => ?_)
  replace hkl := hkl.tr km
  refine x_nmA ea_2 ?_
  rw [← ea_2] at k_a_2
  replace k_x0 := km.at k_x0 (by decide)
  exact bX11_init_179 C k_x0 k_a_2 k_x0 hkl hW hZ _ (lv_sub hl [0] rfl) hE
set_option maxRecDepth 20000 in
theorem bX11_init_156 {p : Program} {l : Launch} {e : Env} {s : State} {m : MethodId} {args : Array Value} {below : List Frame} {meth : Method} {c : Code} {X : Ec} {h0 : Hp} {o : Hp} {F : Nat} (C : Cx X p s m args meth c RX11 cX11_init 2 none "<init>") {h : Hp} {x0 : Nat} {t0 : Nat} {t1 : Nat} {H : Heap} {locs : List Loc} (k_x0 : hK h x0 = 11) (k_t0 : hK h t0 = 0) (k_t1 : hK h t1 = 11) (hkl : Kl h0 h) (hW : Wx X h H) (hZ : va_S (aA (eB X)) s.heap H locs) (ls : Array Slot) (hl : lv_has ls 2 [(0, .ref x0)]) (hE : sX11_init_156 F h x0 t0 t1 = some o) : W p l e (rmA 9 205 h0 o) s m args below meth c H locs (hS h - hS h0) (hL h - hL h0) (MQ below (QVA X h0 o) args s (hS o - hS h0) (hL o - hL h0) (aA (eB X))) (F0 m 156 ls [.ref t0, .ref t1]) := by
  refine lv_dup C.1 C.2.1 dX11_init_156 rfl ?_
  refine lv_aload_n C.1 C.2.1 dX11_init_157 rfl (lv_at hl 0 rfl) ?_
  obtain ⟨r_1, er_1, hE⟩ := cl_e hE
  refine gf_X11_24 C hW k_x0 er_1 dX11_init_158 (fun k_r_1 => ?_)
  refine lv_aload_n C.1 C.2.1 dX11_init_161 rfl (lv_at hl 0 rfl) ?_
  obtain ⟨r_2, er_2, hE⟩ := cl_e hE
  refine gf_X11_41 C hW k_x0 er_2 dX11_init_162 (fun k_r_2 => ?_)
  refine lv_aload_n C.1 C.2.1 dX11_init_165 rfl (lv_at hl 0 rfl) ?_
  obtain ⟨r_3, er_3, hE⟩ := cl_e hE
  refine gf_X11_50 C hW k_x0 er_3 dX11_init_166 (fun k_r_3 => ?_)
  obtain ⟨o_4, eo_4, hE⟩ := cl_e hE
  have m1 := moX0_init eo_4
  have m2 := moX11_init_172 hE
  refine x_kVA (o := o_4) hkl (z_runI (As := [.ref r_1, .ref r_2, .ref r_3]) (rest := [.ref t0, .ref t1]) C (ct_X0_init l X F k_t0 k_r_1 k_r_2 k_r_3 eo_4) ci_X11_83 hW hZ rfl hl.1 (Nat.le_of_ble_eq_true rfl) rfl dX11_init_169 ⟨Nat.le_of_ble_eq_true rfl, Nat.le_of_ble_eq_true rfl⟩ (rm_ok hkl m1 m2)) hZ (fun _ _ hW km hZ => ?_)
  replace hkl := hkl.tr km
  replace k_x0 := km.at k_x0 (by decide)
  replace k_t0 := km.at k_t0 (by decide)
  replace k_t1 := km.at k_t1 (by decide)
  exact bX11_init_172 C k_x0 k_t0 k_t1 hkl hW hZ _ (lv_sub hl [0] rfl) hE
set_option maxRecDepth 20000 in
theorem bX11_init_149 {p : Program} {l : Launch} {e : Env} {s : State} {m : MethodId} {args : Array Value} {below : List Frame} {meth : Method} {c : Code} {X : Ec} {h0 : Hp} {o : Hp} {F : Nat} (C : Cx X p s m args meth c RX11 cX11_init 2 none "<init>") {h : Hp} {x0 : Nat} {t0 : Nat} {t1 : Nat} {H : Heap} {locs : List Loc} (k_x0 : hK h x0 = 11) (k_t0 : hK h t0 = 6) (k_t1 : hK h t1 = 11) (hkl : Kl h0 h) (hW : Wx X h H) (hZ : va_S (aA (eB X)) s.heap H locs) (ls : Array Slot) (hl : lv_has ls 2 [(0, .ref x0)]) (hE : sX11_init_149 F h x0 t0 t1 = some o) : W p l e (rmA 9 205 h0 o) s m args below meth c H locs (hS h - hS h0) (hL h - hL h0) (MQ below (QVA X h0 o) args s (hS o - hS h0) (hL o - hL h0) (aA (eB X))) (F0 m 149 ls [.ref t0, .ref t1]) := by
  obtain ⟨h_1, eh_1, hE⟩ := nm_e2 hE
  refine pf_X11_77 C hW hZ rfl k_t1 k_t0 eh_1 dX11_init_149 (fun _ _ hW km hZ => ?_)
  replace hkl := hkl.tr km.l
  refine x_wc km ?_
  replace k_x0 := km.at k_x0 (by decide)
  refine lv_aload_n C.1 C.2.1 dX11_init_152 rfl (lv_at hl 0 rfl) ?_
  obtain ⟨a_2, ea_2, hE⟩ := nm_e2 hE
  obtain ⟨h_3, eh_3, hE⟩ := nm_e2 hE
  refine y_new C hW hZ hkl (moX11_init_156 hE) ⟨rfl, rfl⟩ i_X0 tyX0 tyX0_ok (by decide) rfl rfl dv_X0 m_448 m_449 m_13 eh_3 dX11_init_153 (fun _ hW km k_a_2 hZ => ?_)
  replace hkl := hkl.tr km
  refine x_nmA ea_2 ?_
  rw [← ea_2] at k_a_2
  replace k_x0 := km.at k_x0 (by decide)
  exact bX11_init_156 C k_x0 k_a_2 k_x0 hkl hW hZ _ (lv_sub hl [0] rfl) hE
set_option maxRecDepth 20000 in
theorem bX11_init_133 {p : Program} {l : Launch} {e : Env} {s : State} {m : MethodId} {args : Array Value} {below : List Frame} {meth : Method} {c : Code} {X : Ec} {h0 : Hp} {o : Hp} {F : Nat} (C : Cx X p s m args meth c RX11 cX11_init 2 none "<init>") {h : Hp} {x0 : Nat} {t0 : Nat} {t1 : Nat} {H : Heap} {locs : List Loc} (k_x0 : hK h x0 = 11) (k_t0 : hK h t0 = 6) (k_t1 : hK h t1 = 11) (hkl : Kl h0 h) (hW : Wx X h H) (hZ : va_S (aA (eB X)) s.heap H locs) (ls : Array Slot) (hl : lv_has ls 2 [(0, .ref x0)]) (hE : sX11_init_133 F h x0 t0 t1 = some o) : W p l e (rmA 9 205 h0 o) s m args below meth c H locs (hS h - hS h0) (hL h - hL h0) (MQ below (QVA X h0 o) args s (hS o - hS h0) (hL o - hL h0) (aA (eB X))) (F0 m 133 ls [.ref t0, .ref t1]) := by
  refine lv_dup C.1 C.2.1 dX11_init_133 rfl ?_
  refine lv_aload_n C.1 C.2.1 dX11_init_134 rfl (lv_at hl 0 rfl) ?_
  obtain ⟨r_1, er_1, hE⟩ := cl_e hE
  refine gf_X11_24 C hW k_x0 er_1 dX11_init_135 (fun k_r_1 => ?_)
  refine lv_aload_n C.1 C.2.1 dX11_init_138 rfl (lv_at hl 0 rfl) ?_
  obtain ⟨r_2, er_2, hE⟩ := cl_e hE
  refine gf_X11_41 C hW k_x0 er_2 dX11_init_139 (fun k_r_2 => ?_)
  refine lv_aload_n C.1 C.2.1 dX11_init_142 rfl (lv_at hl 0 rfl) ?_
  obtain ⟨r_3, er_3, hE⟩ := cl_e hE
  refine gf_X11_50 C hW k_x0 er_3 dX11_init_143 (fun k_r_3 => ?_)
  obtain ⟨o_4, eo_4, hE⟩ := cl_e hE
  have m1 := moX6_init eo_4
  have m2 := moX11_init_149 hE
  refine x_kVA (o := o_4) hkl (z_runI (As := [.ref r_1, .ref r_2, .ref r_3]) (rest := [.ref t0, .ref t1]) C (ct_X6_init l X F k_t0 k_r_1 k_r_2 k_r_3 eo_4) ci_X11_74 hW hZ rfl hl.1 (Nat.le_of_ble_eq_true rfl) rfl dX11_init_146 ⟨Nat.le_of_ble_eq_true rfl, Nat.le_of_ble_eq_true rfl⟩ (rm_ok hkl m1 m2)) hZ (fun _ _ hW km hZ => ?_)
  replace hkl := hkl.tr km
  replace k_x0 := km.at k_x0 (by decide)
  replace k_t0 := km.at k_t0 (by decide)
  replace k_t1 := km.at k_t1 (by decide)
  exact bX11_init_149 C k_x0 k_t0 k_t1 hkl hW hZ _ (lv_sub hl [0] rfl) hE
set_option maxRecDepth 20000 in
theorem bX11_init_126 {p : Program} {l : Launch} {e : Env} {s : State} {m : MethodId} {args : Array Value} {below : List Frame} {meth : Method} {c : Code} {X : Ec} {h0 : Hp} {o : Hp} {F : Nat} (C : Cx X p s m args meth c RX11 cX11_init 2 none "<init>") {h : Hp} {x0 : Nat} {t0 : Nat} {t1 : Nat} {H : Heap} {locs : List Loc} (k_x0 : hK h x0 = 11) (k_t0 : hK h t0 = 8) (k_t1 : hK h t1 = 11) (hkl : Kl h0 h) (hW : Wx X h H) (hZ : va_S (aA (eB X)) s.heap H locs) (ls : Array Slot) (hl : lv_has ls 2 [(0, .ref x0)]) (hE : sX11_init_126 F h x0 t0 t1 = some o) : W p l e (rmA 9 205 h0 o) s m args below meth c H locs (hS h - hS h0) (hL h - hL h0) (MQ below (QVA X h0 o) args s (hS o - hS h0) (hL o - hL h0) (aA (eB X))) (F0 m 126 ls [.ref t0, .ref t1]) := by
  obtain ⟨h_1, eh_1, hE⟩ := nm_e2 hE
  refine pf_X11_68 C hW hZ rfl k_t1 k_t0 eh_1 dX11_init_126 (fun _ _ hW km hZ => ?_)
  replace hkl := hkl.tr km.l
  refine x_wc km ?_
  replace k_x0 := km.at k_x0 (by decide)
  refine lv_aload_n C.1 C.2.1 dX11_init_129 rfl (lv_at hl 0 rfl) ?_
  obtain ⟨a_2, ea_2, hE⟩ := nm_e2 hE
  obtain ⟨h_3, eh_3, hE⟩ := nm_e2 hE
  refine y_new C hW hZ hkl (moX11_init_133 hE) ⟨rfl, rfl⟩ i_X6 tyX6 tyX6_ok (by decide) rfl rfl dv_X6 m_414 m_415 m_12 eh_3 dX11_init_130 (fun _ hW km k_a_2 hZ => ?_)
  replace hkl := hkl.tr km
  refine x_nmA ea_2 ?_
  rw [← ea_2] at k_a_2
  replace k_x0 := km.at k_x0 (by decide)
  exact bX11_init_133 C k_x0 k_a_2 k_x0 hkl hW hZ _ (lv_sub hl [0] rfl) hE
set_option maxRecDepth 20000 in
theorem bX11_init_114 {p : Program} {l : Launch} {e : Env} {s : State} {m : MethodId} {args : Array Value} {below : List Frame} {meth : Method} {c : Code} {X : Ec} {h0 : Hp} {o : Hp} {F : Nat} (C : Cx X p s m args meth c RX11 cX11_init 2 none "<init>") {h : Hp} {x0 : Nat} {t0 : Nat} {t1 : Nat} {H : Heap} {locs : List Loc} (k_x0 : hK h x0 = 11) (k_t0 : hK h t0 = 8) (k_t1 : hK h t1 = 11) (hkl : Kl h0 h) (hW : Wx X h H) (hZ : va_S (aA (eB X)) s.heap H locs) (ls : Array Slot) (hl : lv_has ls 2 [(0, .ref x0)]) (hE : sX11_init_114 F h x0 t0 t1 = some o) : W p l e (rmA 9 205 h0 o) s m args below meth c H locs (hS h - hS h0) (hL h - hL h0) (MQ below (QVA X h0 o) args s (hS o - hS h0) (hL o - hL h0) (aA (eB X))) (F0 m 114 ls [.ref t0, .ref t1]) := by
  refine lv_dup C.1 C.2.1 dX11_init_114 rfl ?_
  refine lv_aload_n C.1 C.2.1 dX11_init_115 rfl (lv_at hl 0 rfl) ?_
  obtain ⟨r_1, er_1, hE⟩ := cl_e hE
  refine gf_X11_24 C hW k_x0 er_1 dX11_init_116 (fun k_r_1 => ?_)
  refine lv_aload_n C.1 C.2.1 dX11_init_119 rfl (lv_at hl 0 rfl) ?_
  obtain ⟨r_2, er_2, hE⟩ := cl_e hE
  refine gf_X11_50 C hW k_x0 er_2 dX11_init_120 (fun k_r_2 => ?_)
  obtain ⟨o_3, eo_3, hE⟩ := cl_e hE
  have m1 := moX8_init eo_3
  have m2 := moX11_init_126 hE
  refine x_kVA (o := o_3) hkl (z_runI (As := [.ref r_1, .ref r_2]) (rest := [.ref t0, .ref t1]) C (ct_X8_init l X F k_t0 k_r_1 k_r_2 eo_3) ci_X11_65 hW hZ rfl hl.1 (Nat.le_of_ble_eq_true rfl) rfl dX11_init_123 ⟨Nat.le_of_ble_eq_true rfl, Nat.le_of_ble_eq_true rfl⟩ (rm_ok hkl m1 m2)) hZ (fun _ _ hW km hZ => ?_)
  replace hkl := hkl.tr km
  replace k_x0 := km.at k_x0 (by decide)
  replace k_t0 := km.at k_t0 (by decide)
  replace k_t1 := km.at k_t1 (by decide)
  exact bX11_init_126 C k_x0 k_t0 k_t1 hkl hW hZ _ (lv_sub hl [0] rfl) hE
set_option maxRecDepth 20000 in
theorem bX11_init_107 {p : Program} {l : Launch} {e : Env} {s : State} {m : MethodId} {args : Array Value} {below : List Frame} {meth : Method} {c : Code} {X : Ec} {h0 : Hp} {o : Hp} {F : Nat} (C : Cx X p s m args meth c RX11 cX11_init 2 none "<init>") {h : Hp} {x0 : Nat} {t0 : Nat} {t1 : Nat} {H : Heap} {locs : List Loc} (k_x0 : hK h x0 = 11) (k_t0 : hK h t0 = 7) (k_t1 : hK h t1 = 11) (hkl : Kl h0 h) (hW : Wx X h H) (hZ : va_S (aA (eB X)) s.heap H locs) (ls : Array Slot) (hl : lv_has ls 2 [(0, .ref x0)]) (hE : sX11_init_107 F h x0 t0 t1 = some o) : W p l e (rmA 9 205 h0 o) s m args below meth c H locs (hS h - hS h0) (hL h - hL h0) (MQ below (QVA X h0 o) args s (hS o - hS h0) (hL o - hL h0) (aA (eB X))) (F0 m 107 ls [.ref t0, .ref t1]) := by
  obtain ⟨h_1, eh_1, hE⟩ := nm_e2 hE
  refine pf_X11_59 C hW hZ rfl k_t1 k_t0 eh_1 dX11_init_107 (fun _ _ hW km hZ => ?_)
  replace hkl := hkl.tr km.l
  refine x_wc km ?_
  replace k_x0 := km.at k_x0 (by decide)
  refine lv_aload_n C.1 C.2.1 dX11_init_110 rfl (lv_at hl 0 rfl) ?_
  obtain ⟨a_2, ea_2, hE⟩ := nm_e2 hE
  obtain ⟨h_3, eh_3, hE⟩ := nm_e2 hE
  refine y_new C hW hZ hkl (moX11_init_114 hE) ⟨rfl, rfl⟩ i_X8 tyX8 tyX8_ok (by decide) rfl rfl dv_X8 m_391 m_392 m_11 eh_3 dX11_init_111 (fun _ hW km k_a_2 hZ => ?_)
  replace hkl := hkl.tr km
  refine x_nmA ea_2 ?_
  rw [← ea_2] at k_a_2
  replace k_x0 := km.at k_x0 (by decide)
  exact bX11_init_114 C k_x0 k_a_2 k_x0 hkl hW hZ _ (lv_sub hl [0] rfl) hE
set_option maxRecDepth 20000 in
theorem bX11_init_99 {p : Program} {l : Launch} {e : Env} {s : State} {m : MethodId} {args : Array Value} {below : List Frame} {meth : Method} {c : Code} {X : Ec} {h0 : Hp} {o : Hp} {F : Nat} (C : Cx X p s m args meth c RX11 cX11_init 2 none "<init>") {h : Hp} {x0 : Nat} {t0 : Nat} {t1 : Nat} {H : Heap} {locs : List Loc} (k_x0 : hK h x0 = 11) (k_t0 : hK h t0 = 7) (k_t1 : hK h t1 = 11) (hkl : Kl h0 h) (hW : Wx X h H) (hZ : va_S (aA (eB X)) s.heap H locs) (ls : Array Slot) (hl : lv_has ls 2 [(0, .ref x0)]) (hE : sX11_init_99 F h x0 t0 t1 = some o) : W p l e (rmA 9 205 h0 o) s m args below meth c H locs (hS h - hS h0) (hL h - hL h0) (MQ below (QVA X h0 o) args s (hS o - hS h0) (hL o - hL h0) (aA (eB X))) (F0 m 99 ls [.ref t0, .ref t1]) := by
  refine lv_dup C.1 C.2.1 dX11_init_99 rfl ?_
  refine lv_aload_n C.1 C.2.1 dX11_init_100 rfl (lv_at hl 0 rfl) ?_
  obtain ⟨r_1, er_1, hE⟩ := cl_e hE
  refine gf_X11_24 C hW k_x0 er_1 dX11_init_101 (fun k_r_1 => ?_)
  obtain ⟨o_2, eo_2, hE⟩ := cl_e hE
  have m1 := moX7_init eo_2
  have m2 := moX11_init_107 hE
  refine x_kV (o := o_2) (z_runI (As := [.ref r_1]) (rest := [.ref t0, .ref t1]) C (ct_X7_init l X k_t0 k_r_1 eo_2) ci_X11_56 hW hZ rfl hl.1 (Nat.le_of_ble_eq_true rfl) rfl dX11_init_104 ⟨Nat.le_of_ble_eq_true rfl, Nat.le_of_ble_eq_true rfl⟩ (rm_ok0 hkl m1 m2)) hZ (fun _ _ hW km hZ => ?_)
  replace hkl := hkl.tr km.l
  refine x_wc km ?_
  replace k_x0 := km.at k_x0 (by decide)
  replace k_t0 := km.at k_t0 (by decide)
  replace k_t1 := km.at k_t1 (by decide)
  exact bX11_init_107 C k_x0 k_t0 k_t1 hkl hW hZ _ (lv_sub hl [0] rfl) hE
set_option maxRecDepth 20000 in
theorem bX11_init_92 {p : Program} {l : Launch} {e : Env} {s : State} {m : MethodId} {args : Array Value} {below : List Frame} {meth : Method} {c : Code} {X : Ec} {h0 : Hp} {o : Hp} {F : Nat} (C : Cx X p s m args meth c RX11 cX11_init 2 none "<init>") {h : Hp} {x0 : Nat} {t0 : Nat} {t1 : Nat} {H : Heap} {locs : List Loc} (k_x0 : hK h x0 = 11) (k_t0 : hK h t0 = 5) (k_t1 : hK h t1 = 11) (hkl : Kl h0 h) (hW : Wx X h H) (hZ : va_S (aA (eB X)) s.heap H locs) (ls : Array Slot) (hl : lv_has ls 2 [(0, .ref x0)]) (hE : sX11_init_92 F h x0 t0 t1 = some o) : W p l e (rmA 9 205 h0 o) s m args below meth c H locs (hS h - hS h0) (hL h - hL h0) (MQ below (QVA X h0 o) args s (hS o - hS h0) (hL o - hL h0) (aA (eB X))) (F0 m 92 ls [.ref t0, .ref t1]) := by
  obtain ⟨h_1, eh_1, hE⟩ := nm_e2 hE
  refine pf_X11_50 C hW hZ rfl k_t1 k_t0 eh_1 dX11_init_92 (fun _ _ hW km hZ => ?_)
  replace hkl := hkl.tr km.l
  refine x_wc km ?_
  replace k_x0 := km.at k_x0 (by decide)
  refine lv_aload_n C.1 C.2.1 dX11_init_95 rfl (lv_at hl 0 rfl) ?_
  obtain ⟨a_2, ea_2, hE⟩ := nm_e2 hE
  obtain ⟨h_3, eh_3, hE⟩ := nm_e2 hE
  refine y_new C hW hZ hkl (moX11_init_99 hE) ⟨rfl, rfl⟩ i_X7 tyX7 tyX7_ok (by decide) rfl rfl dv_X7 m_375 m_376 m_10 eh_3 dX11_init_96 (fun _ hW km k_a_2 hZ => ?_)
  replace hkl := hkl.tr km
  refine x_nmA ea_2 ?_
  rw [← ea_2] at k_a_2
  replace k_x0 := km.at k_x0 (by decide)
  exact bX11_init_99 C k_x0 k_a_2 k_x0 hkl hW hZ _ (lv_sub hl [0] rfl) hE
set_option maxRecDepth 20000 in
theorem bX11_init_80 {p : Program} {l : Launch} {e : Env} {s : State} {m : MethodId} {args : Array Value} {below : List Frame} {meth : Method} {c : Code} {X : Ec} {h0 : Hp} {o : Hp} {F : Nat} (C : Cx X p s m args meth c RX11 cX11_init 2 none "<init>") {h : Hp} {x0 : Nat} {t0 : Nat} {t1 : Nat} {H : Heap} {locs : List Loc} (k_x0 : hK h x0 = 11) (k_t0 : hK h t0 = 5) (k_t1 : hK h t1 = 11) (hkl : Kl h0 h) (hW : Wx X h H) (hZ : va_S (aA (eB X)) s.heap H locs) (ls : Array Slot) (hl : lv_has ls 2 [(0, .ref x0)]) (hE : sX11_init_80 F h x0 t0 t1 = some o) : W p l e (rmA 9 205 h0 o) s m args below meth c H locs (hS h - hS h0) (hL h - hL h0) (MQ below (QVA X h0 o) args s (hS o - hS h0) (hL o - hL h0) (aA (eB X))) (F0 m 80 ls [.ref t0, .ref t1]) := by
  refine lv_dup C.1 C.2.1 dX11_init_80 rfl ?_
  refine lv_aload_n C.1 C.2.1 dX11_init_81 rfl (lv_at hl 0 rfl) ?_
  obtain ⟨r_1, er_1, hE⟩ := cl_e hE
  refine gf_X11_24 C hW k_x0 er_1 dX11_init_82 (fun k_r_1 => ?_)
  refine lv_aload_n C.1 C.2.1 dX11_init_85 rfl (lv_at hl 0 rfl) ?_
  obtain ⟨r_2, er_2, hE⟩ := cl_e hE
  refine gf_X11_41 C hW k_x0 er_2 dX11_init_86 (fun k_r_2 => ?_)
  obtain ⟨o_3, eo_3, hE⟩ := cl_e hE
  have m1 := moX5_init eo_3
  have m2 := moX11_init_92 hE
  refine x_kVA (o := o_3) hkl (z_runI (As := [.ref r_1, .ref r_2]) (rest := [.ref t0, .ref t1]) C (ct_X5_init l X F k_t0 k_r_1 k_r_2 eo_3) ci_X11_47 hW hZ rfl hl.1 (Nat.le_of_ble_eq_true rfl) rfl dX11_init_89 ⟨Nat.le_of_ble_eq_true rfl, Nat.le_of_ble_eq_true rfl⟩ (rm_ok hkl m1 m2)) hZ (fun _ _ hW km hZ => ?_)
  replace hkl := hkl.tr km
  replace k_x0 := km.at k_x0 (by decide)
  replace k_t0 := km.at k_t0 (by decide)
  replace k_t1 := km.at k_t1 (by decide)
  exact bX11_init_92 C k_x0 k_t0 k_t1 hkl hW hZ _ (lv_sub hl [0] rfl) hE
set_option maxRecDepth 20000 in
theorem bX11_init_73 {p : Program} {l : Launch} {e : Env} {s : State} {m : MethodId} {args : Array Value} {below : List Frame} {meth : Method} {c : Code} {X : Ec} {h0 : Hp} {o : Hp} {F : Nat} (C : Cx X p s m args meth c RX11 cX11_init 2 none "<init>") {h : Hp} {x0 : Nat} {t0 : Nat} {t1 : Nat} {H : Heap} {locs : List Loc} (k_x0 : hK h x0 = 11) (k_t0 : hK h t0 = 10) (k_t1 : hK h t1 = 11) (hkl : Kl h0 h) (hW : Wx X h H) (hZ : va_S (aA (eB X)) s.heap H locs) (ls : Array Slot) (hl : lv_has ls 2 [(0, .ref x0)]) (hE : sX11_init_73 F h x0 t0 t1 = some o) : W p l e (rmA 9 205 h0 o) s m args below meth c H locs (hS h - hS h0) (hL h - hL h0) (MQ below (QVA X h0 o) args s (hS o - hS h0) (hL o - hL h0) (aA (eB X))) (F0 m 73 ls [.ref t0, .ref t1]) := by
  obtain ⟨h_1, eh_1, hE⟩ := nm_e2 hE
  refine pf_X11_41 C hW hZ rfl k_t1 k_t0 eh_1 dX11_init_73 (fun _ _ hW km hZ => ?_)
  replace hkl := hkl.tr km.l
  refine x_wc km ?_
  replace k_x0 := km.at k_x0 (by decide)
  refine lv_aload_n C.1 C.2.1 dX11_init_76 rfl (lv_at hl 0 rfl) ?_
  obtain ⟨a_2, ea_2, hE⟩ := nm_e2 hE
  obtain ⟨h_3, eh_3, hE⟩ := nm_e2 hE
  refine y_new C hW hZ hkl (moX11_init_80 hE) ⟨rfl, rfl⟩ i_X5 tyX5 tyX5_ok (by decide) rfl rfl dv_X5 m_258 m_259 m_7 eh_3 dX11_init_77 (fun _ hW km k_a_2 hZ => ?_)
  replace hkl := hkl.tr km
  refine x_nmA ea_2 ?_
  rw [← ea_2] at k_a_2
  replace k_x0 := km.at k_x0 (by decide)
  exact bX11_init_80 C k_x0 k_a_2 k_x0 hkl hW hZ _ (lv_sub hl [0] rfl) hE
set_option maxRecDepth 20000 in
theorem bX11_init_69 {p : Program} {l : Launch} {e : Env} {s : State} {m : MethodId} {args : Array Value} {below : List Frame} {meth : Method} {c : Code} {X : Ec} {h0 : Hp} {o : Hp} {F : Nat} (C : Cx X p s m args meth c RX11 cX11_init 2 none "<init>") {h : Hp} {x0 : Nat} {t0 : Nat} {t1 : Nat} {H : Heap} {locs : List Loc} (k_x0 : hK h x0 = 11) (k_t0 : hK h t0 = 10) (k_t1 : hK h t1 = 11) (hkl : Kl h0 h) (hW : Wx X h H) (hZ : va_S (aA (eB X)) s.heap H locs) (ls : Array Slot) (hl : lv_has ls 2 [(0, .ref x0)]) (hE : sX11_init_69 F h x0 t0 t1 = some o) : W p l e (rmA 9 205 h0 o) s m args below meth c H locs (hS h - hS h0) (hL h - hL h0) (MQ below (QVA X h0 o) args s (hS o - hS h0) (hL o - hL h0) (aA (eB X))) (F0 m 69 ls [.ref t0, .ref t1]) := by
  refine lv_dup C.1 C.2.1 dX11_init_69 rfl ?_
  obtain ⟨o_1, eo_1, hE⟩ := cl_e hE
  have m1 := moX10_init eo_1
  have m2 := moX11_init_73 hE
  refine x_kVA (o := o_1) hkl (z_runIN (As := []) (rest := [.ref t0, .ref t1]) C (ct_X10_init l X k_t0 eo_1) cj_X11_40 hW hZ rfl hl.1 (Nat.le_of_ble_eq_true rfl) rfl dX11_init_70 ⟨Nat.le_of_ble_eq_true rfl, Nat.le_of_ble_eq_true rfl⟩ (rm_ok hkl m1 m2)) hZ (fun _ _ hW km hZ => ?_)
  replace hkl := hkl.tr km
  replace k_x0 := km.at k_x0 (by decide)
  replace k_t0 := km.at k_t0 (by decide)
  replace k_t1 := km.at k_t1 (by decide)
  exact bX11_init_73 C k_x0 k_t0 k_t1 hkl hW hZ _ (lv_sub hl [0] rfl) hE
set_option maxRecDepth 20000 in
theorem bX11_init_62 {p : Program} {l : Launch} {e : Env} {s : State} {m : MethodId} {args : Array Value} {below : List Frame} {meth : Method} {c : Code} {X : Ec} {h0 : Hp} {o : Hp} {F : Nat} (C : Cx X p s m args meth c RX11 cX11_init 2 none "<init>") {h : Hp} {x0 : Nat} {t0 : Nat} {t1 : Nat} {H : Heap} {locs : List Loc} (k_x0 : hK h x0 = 11) (k_t0 : hK h t0 = 2) (k_t1 : hK h t1 = 11) (hkl : Kl h0 h) (hW : Wx X h H) (hZ : va_S (aA (eB X)) s.heap H locs) (ls : Array Slot) (hl : lv_has ls 2 [(0, .ref x0)]) (hE : sX11_init_62 F h x0 t0 t1 = some o) : W p l e (rmA 9 205 h0 o) s m args below meth c H locs (hS h - hS h0) (hL h - hL h0) (MQ below (QVA X h0 o) args s (hS o - hS h0) (hL o - hL h0) (aA (eB X))) (F0 m 62 ls [.ref t0, .ref t1]) := by
  obtain ⟨h_1, eh_1, hE⟩ := nm_e2 hE
  refine pf_X11_34 C hW hZ rfl k_t1 k_t0 eh_1 dX11_init_62 (fun _ _ hW km hZ => ?_)
  replace hkl := hkl.tr km.l
  refine x_wc km ?_
  replace k_x0 := km.at k_x0 (by decide)
  refine lv_aload_n C.1 C.2.1 dX11_init_65 rfl (lv_at hl 0 rfl) ?_
  obtain ⟨a_2, ea_2, hE⟩ := nm_e2 hE
  obtain ⟨h_3, eh_3, hE⟩ := nm_e2 hE
  refine y_new C hW hZ hkl (moX11_init_69 hE) ⟨rfl, rfl⟩ i_X10 tyX10 tyX10_ok (by decide) rfl rfl dv_X10 m_217 m_218 m_6 eh_3 dX11_init_66 (fun _ hW km k_a_2 hZ => ?_)
  replace hkl := hkl.tr km
  refine x_nmA ea_2 ?_
  rw [← ea_2] at k_a_2
  replace k_x0 := km.at k_x0 (by decide)
  exact bX11_init_69 C k_x0 k_a_2 k_x0 hkl hW hZ _ (lv_sub hl [0] rfl) hE
set_option maxRecDepth 20000 in
theorem bX11_init_58 {p : Program} {l : Launch} {e : Env} {s : State} {m : MethodId} {args : Array Value} {below : List Frame} {meth : Method} {c : Code} {X : Ec} {h0 : Hp} {o : Hp} {F : Nat} (C : Cx X p s m args meth c RX11 cX11_init 2 none "<init>") {h : Hp} {x0 : Nat} {t0 : Nat} {t1 : Nat} {H : Heap} {locs : List Loc} (k_x0 : hK h x0 = 11) (k_t0 : hK h t0 = 2) (k_t1 : hK h t1 = 11) (hkl : Kl h0 h) (hW : Wx X h H) (hZ : va_S (aA (eB X)) s.heap H locs) (ls : Array Slot) (hl : lv_has ls 2 [(0, .ref x0)]) (hE : sX11_init_58 F h x0 t0 t1 = some o) : W p l e (rmA 9 205 h0 o) s m args below meth c H locs (hS h - hS h0) (hL h - hL h0) (MQ below (QVA X h0 o) args s (hS o - hS h0) (hL o - hL h0) (aA (eB X))) (F0 m 58 ls [.ref t0, .ref t1]) := by
  refine lv_dup C.1 C.2.1 dX11_init_58 rfl ?_
  obtain ⟨o_1, eo_1, hE⟩ := cl_e hE
  have m1 := moX2_init eo_1
  have m2 := moX11_init_62 hE
  refine x_kV (o := o_1) (z_runIN (As := []) (rest := [.ref t0, .ref t1]) C (ct_X2_init l X k_t0 eo_1) cj_X11_33 hW hZ rfl hl.1 (Nat.le_of_ble_eq_true rfl) rfl dX11_init_59 ⟨Nat.le_of_ble_eq_true rfl, Nat.le_of_ble_eq_true rfl⟩ (rm_ok0 hkl m1 m2)) hZ (fun _ _ hW km hZ => ?_)
  replace hkl := hkl.tr km.l
  refine x_wc km ?_
  replace k_x0 := km.at k_x0 (by decide)
  replace k_t0 := km.at k_t0 (by decide)
  replace k_t1 := km.at k_t1 (by decide)
  exact bX11_init_62 C k_x0 k_t0 k_t1 hkl hW hZ _ (lv_sub hl [0] rfl) hE
set_option maxRecDepth 20000 in
theorem bX11_init_51 {p : Program} {l : Launch} {e : Env} {s : State} {m : MethodId} {args : Array Value} {below : List Frame} {meth : Method} {c : Code} {X : Ec} {h0 : Hp} {o : Hp} {F : Nat} (C : Cx X p s m args meth c RX11 cX11_init 2 none "<init>") {h : Hp} {x0 : Nat} {t0 : Nat} {t1 : Nat} {H : Heap} {locs : List Loc} (k_x0 : hK h x0 = 11) (k_t0 : hK h t0 = 1) (k_t1 : hK h t1 = 11) (hkl : Kl h0 h) (hW : Wx X h H) (hZ : va_S (aA (eB X)) s.heap H locs) (ls : Array Slot) (hl : lv_has ls 2 [(0, .ref x0)]) (hE : sX11_init_51 F h x0 t0 t1 = some o) : W p l e (rmA 9 205 h0 o) s m args below meth c H locs (hS h - hS h0) (hL h - hL h0) (MQ below (QVA X h0 o) args s (hS o - hS h0) (hL o - hL h0) (aA (eB X))) (F0 m 51 ls [.ref t0, .ref t1]) := by
  obtain ⟨h_1, eh_1, hE⟩ := nm_e2 hE
  refine pf_X11_28 C hW hZ rfl k_t1 k_t0 eh_1 dX11_init_51 (fun _ _ hW km hZ => ?_)
  replace hkl := hkl.tr km.l
  refine x_wc km ?_
  replace k_x0 := km.at k_x0 (by decide)
  refine lv_aload_n C.1 C.2.1 dX11_init_54 rfl (lv_at hl 0 rfl) ?_
  obtain ⟨a_2, ea_2, hE⟩ := nm_e2 hE
  obtain ⟨h_3, eh_3, hE⟩ := nm_e2 hE
  refine y_new C hW hZ hkl (moX11_init_58 hE) ⟨rfl, rfl⟩ i_X2 tyX2 tyX2_ok (by decide) rfl rfl dv_X2 m_189 m_190 m_5 eh_3 dX11_init_55 (fun _ hW km k_a_2 hZ => ?_)
  replace hkl := hkl.tr km
  refine x_nmA ea_2 ?_
  rw [← ea_2] at k_a_2
  replace k_x0 := km.at k_x0 (by decide)
  exact bX11_init_58 C k_x0 k_a_2 k_x0 hkl hW hZ _ (lv_sub hl [0] rfl) hE
set_option maxRecDepth 20000 in
theorem bX11_init_47 {p : Program} {l : Launch} {e : Env} {s : State} {m : MethodId} {args : Array Value} {below : List Frame} {meth : Method} {c : Code} {X : Ec} {h0 : Hp} {o : Hp} {F : Nat} (C : Cx X p s m args meth c RX11 cX11_init 2 none "<init>") {h : Hp} {x0 : Nat} {t0 : Nat} {t1 : Nat} {H : Heap} {locs : List Loc} (k_x0 : hK h x0 = 11) (k_t0 : hK h t0 = 1) (k_t1 : hK h t1 = 11) (hkl : Kl h0 h) (hW : Wx X h H) (hZ : va_S (aA (eB X)) s.heap H locs) (ls : Array Slot) (hl : lv_has ls 2 [(0, .ref x0)]) (hE : sX11_init_47 F h x0 t0 t1 = some o) : W p l e (rmA 9 205 h0 o) s m args below meth c H locs (hS h - hS h0) (hL h - hL h0) (MQ below (QVA X h0 o) args s (hS o - hS h0) (hL o - hL h0) (aA (eB X))) (F0 m 47 ls [.ref t0, .ref t1]) := by
  refine lv_dup C.1 C.2.1 dX11_init_47 rfl ?_
  obtain ⟨o_1, eo_1, hE⟩ := cl_e hE
  have m1 := moX1_init eo_1
  have m2 := moX11_init_51 hE
  refine x_kVA (o := o_1) hkl (z_runIN (As := []) (rest := [.ref t0, .ref t1]) C (ct_X1_init l X k_t0 eo_1) cj_X11_23 hW hZ rfl hl.1 (Nat.le_of_ble_eq_true rfl) rfl dX11_init_48 ⟨Nat.le_of_ble_eq_true rfl, Nat.le_of_ble_eq_true rfl⟩ (rm_ok hkl m1 m2)) hZ (fun _ _ hW km hZ => ?_)
  replace hkl := hkl.tr km
  replace k_x0 := km.at k_x0 (by decide)
  replace k_t0 := km.at k_t0 (by decide)
  replace k_t1 := km.at k_t1 (by decide)
  exact bX11_init_51 C k_x0 k_t0 k_t1 hkl hW hZ _ (lv_sub hl [0] rfl) hE
set_option maxRecDepth 20000 in
theorem bX11_init_40 {p : Program} {l : Launch} {e : Env} {s : State} {m : MethodId} {args : Array Value} {below : List Frame} {meth : Method} {c : Code} {X : Ec} {h0 : Hp} {o : Hp} {F : Nat} (C : Cx X p s m args meth c RX11 cX11_init 2 none "<init>") {h : Hp} {x0 : Nat} {t0 : Nat} {t1 : Nat} {H : Heap} {locs : List Loc} (k_x0 : hK h x0 = 11) (k_t0 : hK h t0 = 1) (k_t1 : hK h t1 = 11) (hkl : Kl h0 h) (hW : Wx X h H) (hZ : va_S (aA (eB X)) s.heap H locs) (ls : Array Slot) (hl : lv_has ls 2 [(0, .ref x0)]) (hE : sX11_init_40 F h x0 t0 t1 = some o) : W p l e (rmA 9 205 h0 o) s m args below meth c H locs (hS h - hS h0) (hL h - hL h0) (MQ below (QVA X h0 o) args s (hS o - hS h0) (hL o - hL h0) (aA (eB X))) (F0 m 40 ls [.ref t0, .ref t1]) := by
  obtain ⟨h_1, eh_1, hE⟩ := nm_e2 hE
  refine pf_X11_24 C hW hZ rfl k_t1 k_t0 eh_1 dX11_init_40 (fun _ _ hW km hZ => ?_)
  replace hkl := hkl.tr km.l
  refine x_wc km ?_
  replace k_x0 := km.at k_x0 (by decide)
  refine lv_aload_n C.1 C.2.1 dX11_init_43 rfl (lv_at hl 0 rfl) ?_
  obtain ⟨a_2, ea_2, hE⟩ := nm_e2 hE
  obtain ⟨h_3, eh_3, hE⟩ := nm_e2 hE
  refine y_new C hW hZ hkl (moX11_init_47 hE) ⟨rfl, rfl⟩ i_X1 tyX1 tyX1_ok (by decide) rfl rfl dv_X1 m_55 m_56 m_4 eh_3 dX11_init_44 (fun _ hW km k_a_2 hZ => ?_)
  replace hkl := hkl.tr km
  refine x_nmA ea_2 ?_
  rw [← ea_2] at k_a_2
  replace k_x0 := km.at k_x0 (by decide)
  exact bX11_init_47 C k_x0 k_a_2 k_x0 hkl hW hZ _ (lv_sub hl [0] rfl) hE
set_option maxRecDepth 20000 in
theorem bX11_init_36 {p : Program} {l : Launch} {e : Env} {s : State} {m : MethodId} {args : Array Value} {below : List Frame} {meth : Method} {c : Code} {X : Ec} {h0 : Hp} {o : Hp} {F : Nat} (C : Cx X p s m args meth c RX11 cX11_init 2 none "<init>") {h : Hp} {x0 : Nat} {t0 : Nat} {t1 : Nat} {H : Heap} {locs : List Loc} (k_x0 : hK h x0 = 11) (k_t0 : hK h t0 = 1) (k_t1 : hK h t1 = 11) (hkl : Kl h0 h) (hW : Wx X h H) (hZ : va_S (aA (eB X)) s.heap H locs) (ls : Array Slot) (hl : lv_has ls 2 [(0, .ref x0)]) (hE : sX11_init_36 F h x0 t0 t1 = some o) : W p l e (rmA 9 205 h0 o) s m args below meth c H locs (hS h - hS h0) (hL h - hL h0) (MQ below (QVA X h0 o) args s (hS o - hS h0) (hL o - hL h0) (aA (eB X))) (F0 m 36 ls [.ref t0, .ref t1]) := by
  refine lv_dup C.1 C.2.1 dX11_init_36 rfl ?_
  obtain ⟨o_1, eo_1, hE⟩ := cl_e hE
  have m1 := moX1_init eo_1
  have m2 := moX11_init_40 hE
  refine x_kVA (o := o_1) hkl (z_runIN (As := []) (rest := [.ref t0, .ref t1]) C (ct_X1_init l X k_t0 eo_1) cj_X11_23 hW hZ rfl hl.1 (Nat.le_of_ble_eq_true rfl) rfl dX11_init_37 ⟨Nat.le_of_ble_eq_true rfl, Nat.le_of_ble_eq_true rfl⟩ (rm_ok hkl m1 m2)) hZ (fun _ _ hW km hZ => ?_)
  replace hkl := hkl.tr km
  replace k_x0 := km.at k_x0 (by decide)
  replace k_t0 := km.at k_t0 (by decide)
  replace k_t1 := km.at k_t1 (by decide)
  exact bX11_init_40 C k_x0 k_t0 k_t1 hkl hW hZ _ (lv_sub hl [0] rfl) hE
set_option maxRecDepth 20000 in
theorem bX11_init_29 {p : Program} {l : Launch} {e : Env} {s : State} {m : MethodId} {args : Array Value} {below : List Frame} {meth : Method} {c : Code} {X : Ec} {h0 : Hp} {o : Hp} {F : Nat} (C : Cx X p s m args meth c RX11 cX11_init 2 none "<init>") {h : Hp} {x0 : Nat} {t0 : Nat} {t1 : Nat} {H : Heap} {locs : List Loc} (k_x0 : hK h x0 = 11) (k_t0 : hK h t0 = 9) (k_t1 : hK h t1 = 11) (hkl : Kl h0 h) (hW : Wx X h H) (hZ : va_S (aA (eB X)) s.heap H locs) (ls : Array Slot) (hl : lv_has ls 2 [(0, .ref x0)]) (hE : sX11_init_29 F h x0 t0 t1 = some o) : W p l e (rmA 9 205 h0 o) s m args below meth c H locs (hS h - hS h0) (hL h - hL h0) (MQ below (QVA X h0 o) args s (hS o - hS h0) (hL o - hL h0) (aA (eB X))) (F0 m 29 ls [.ref t0, .ref t1]) := by
  obtain ⟨h_1, eh_1, hE⟩ := nm_e2 hE
  refine pf_X11_18 C hW hZ rfl k_t1 k_t0 eh_1 dX11_init_29 (fun _ _ hW km hZ => ?_)
  replace hkl := hkl.tr km.l
  refine x_wc km ?_
  replace k_x0 := km.at k_x0 (by decide)
  refine lv_aload_n C.1 C.2.1 dX11_init_32 rfl (lv_at hl 0 rfl) ?_
  obtain ⟨a_2, ea_2, hE⟩ := nm_e2 hE
  obtain ⟨h_3, eh_3, hE⟩ := nm_e2 hE
  refine y_new C hW hZ hkl (moX11_init_36 hE) ⟨rfl, rfl⟩ i_X1 tyX1 tyX1_ok (by decide) rfl rfl dv_X1 m_55 m_56 m_4 eh_3 dX11_init_33 (fun _ hW km k_a_2 hZ => ?_)
  replace hkl := hkl.tr km
  refine x_nmA ea_2 ?_
  rw [← ea_2] at k_a_2
  replace k_x0 := km.at k_x0 (by decide)
  exact bX11_init_36 C k_x0 k_a_2 k_x0 hkl hW hZ _ (lv_sub hl [0] rfl) hE
set_option maxRecDepth 20000 in
theorem bX11_init_22 {p : Program} {l : Launch} {e : Env} {s : State} {m : MethodId} {args : Array Value} {below : List Frame} {meth : Method} {c : Code} {X : Ec} {h0 : Hp} {o : Hp} {F : Nat} (C : Cx X p s m args meth c RX11 cX11_init 2 none "<init>") {h : Hp} {x0 : Nat} {t0 : Nat} {t1 : Nat} {H : Heap} {locs : List Loc} (k_x0 : hK h x0 = 11) (k_t0 : hK h t0 = 9) (k_t1 : hK h t1 = 11) (hkl : Kl h0 h) (hW : Wx X h H) (hZ : va_S (aA (eB X)) s.heap H locs) (ls : Array Slot) (hl : lv_has ls 2 [(0, .ref x0)]) (hE : sX11_init_22 F h x0 t0 t1 = some o) : W p l e (rmA 9 205 h0 o) s m args below meth c H locs (hS h - hS h0) (hL h - hL h0) (MQ below (QVA X h0 o) args s (hS o - hS h0) (hL o - hL h0) (aA (eB X))) (F0 m 22 ls [.ref t0, .ref t1]) := by
  refine lv_dup C.1 C.2.1 dX11_init_22 rfl ?_
  refine lv_sipush (v := (512 : Int32)) C.1 C.2.1 dX11_init_23 (by decide) ?_
  obtain ⟨o_1, eo_1, hE⟩ := cl_e hE
  have m1 := moX9_init eo_1
  have m2 := moX11_init_29 hE
  refine x_kVA (o := o_1) hkl (z_runI (As := [.int (512 : Int32)]) (rest := [.ref t0, .ref t1]) C (ct_X9_init l X k_t0 eo_1) ci_X11_11 hW hZ rfl hl.1 (Nat.le_of_ble_eq_true rfl) rfl dX11_init_26 ⟨Nat.le_of_ble_eq_true rfl, Nat.le_of_ble_eq_true rfl⟩ (rm_ok hkl m1 m2)) hZ (fun _ _ hW km hZ => ?_)
  replace hkl := hkl.tr km
  replace k_x0 := km.at k_x0 (by decide)
  replace k_t0 := km.at k_t0 (by decide)
  replace k_t1 := km.at k_t1 (by decide)
  exact bX11_init_29 C k_x0 k_t0 k_t1 hkl hW hZ _ (lv_sub hl [0] rfl) hE
set_option maxRecDepth 20000 in
theorem bX11_init_15 {p : Program} {l : Launch} {e : Env} {s : State} {m : MethodId} {args : Array Value} {below : List Frame} {meth : Method} {c : Code} {X : Ec} {h0 : Hp} {o : Hp} {F : Nat} (C : Cx X p s m args meth c RX11 cX11_init 2 none "<init>") {h : Hp} {x0 : Nat} {t0 : Nat} {t1 : Nat} {H : Heap} {locs : List Loc} (k_x0 : hK h x0 = 11) (k_t0 : hK h t0 = 9) (k_t1 : hK h t1 = 11) (hkl : Kl h0 h) (hW : Wx X h H) (hZ : va_S (aA (eB X)) s.heap H locs) (ls : Array Slot) (hl : lv_has ls 2 [(0, .ref x0)]) (hE : sX11_init_15 F h x0 t0 t1 = some o) : W p l e (rmA 9 205 h0 o) s m args below meth c H locs (hS h - hS h0) (hL h - hL h0) (MQ below (QVA X h0 o) args s (hS o - hS h0) (hL o - hL h0) (aA (eB X))) (F0 m 15 ls [.ref t0, .ref t1]) := by
  obtain ⟨h_1, eh_1, hE⟩ := nm_e2 hE
  refine pf_X11_14 C hW hZ rfl k_t1 k_t0 eh_1 dX11_init_15 (fun _ _ hW km hZ => ?_)
  replace hkl := hkl.tr km.l
  refine x_wc km ?_
  replace k_x0 := km.at k_x0 (by decide)
  refine lv_aload_n C.1 C.2.1 dX11_init_18 rfl (lv_at hl 0 rfl) ?_
  obtain ⟨a_2, ea_2, hE⟩ := nm_e2 hE
  obtain ⟨h_3, eh_3, hE⟩ := nm_e2 hE
  refine y_new C hW hZ hkl (moX11_init_22 hE) ⟨rfl, rfl⟩ i_X9 tyX9 tyX9_ok (by decide) rfl rfl dv_X9 m_34 m_35 m_2 eh_3 dX11_init_19 (fun _ hW km k_a_2 hZ => ?_)
  replace hkl := hkl.tr km
  refine x_nmA ea_2 ?_
  rw [← ea_2] at k_a_2
  replace k_x0 := km.at k_x0 (by decide)
  exact bX11_init_22 C k_x0 k_a_2 k_x0 hkl hW hZ _ (lv_sub hl [0] rfl) hE
set_option maxRecDepth 20000 in
theorem bX11_init_8 {p : Program} {l : Launch} {e : Env} {s : State} {m : MethodId} {args : Array Value} {below : List Frame} {meth : Method} {c : Code} {X : Ec} {h0 : Hp} {o : Hp} {F : Nat} (C : Cx X p s m args meth c RX11 cX11_init 2 none "<init>") {h : Hp} {x0 : Nat} {t0 : Nat} {t1 : Nat} {H : Heap} {locs : List Loc} (k_x0 : hK h x0 = 11) (k_t0 : hK h t0 = 9) (k_t1 : hK h t1 = 11) (hkl : Kl h0 h) (hW : Wx X h H) (hZ : va_S (aA (eB X)) s.heap H locs) (ls : Array Slot) (hl : lv_has ls 2 [(0, .ref x0)]) (hE : sX11_init_8 F h x0 t0 t1 = some o) : W p l e (rmA 9 205 h0 o) s m args below meth c H locs (hS h - hS h0) (hL h - hL h0) (MQ below (QVA X h0 o) args s (hS o - hS h0) (hL o - hL h0) (aA (eB X))) (F0 m 8 ls [.ref t0, .ref t1]) := by
  refine lv_dup C.1 C.2.1 dX11_init_8 rfl ?_
  refine lv_sipush (v := (1200 : Int32)) C.1 C.2.1 dX11_init_9 (by decide) ?_
  obtain ⟨o_1, eo_1, hE⟩ := cl_e hE
  have m1 := moX9_init eo_1
  have m2 := moX11_init_15 hE
  refine x_kVA (o := o_1) hkl (z_runI (As := [.int (1200 : Int32)]) (rest := [.ref t0, .ref t1]) C (ct_X9_init l X k_t0 eo_1) ci_X11_11 hW hZ rfl hl.1 (Nat.le_of_ble_eq_true rfl) rfl dX11_init_12 ⟨Nat.le_of_ble_eq_true rfl, Nat.le_of_ble_eq_true rfl⟩ (rm_ok hkl m1 m2)) hZ (fun _ _ hW km hZ => ?_)
  replace hkl := hkl.tr km
  replace k_x0 := km.at k_x0 (by decide)
  replace k_t0 := km.at k_t0 (by decide)
  replace k_t1 := km.at k_t1 (by decide)
  exact bX11_init_15 C k_x0 k_t0 k_t1 hkl hW hZ _ (lv_sub hl [0] rfl) hE
set_option maxRecDepth 20000 in
theorem ct_X11_init (l : Launch) (X : Ec) (F : Nat) {h : Hp} {x0 : Nat} {o : Hp} (k_x0 : hK h x0 = 11) (hE : sX11_init F h x0 = some o) : MetVA l yX11_init cX11_init 2 none 9 205 X [.ref x0] h o := by
  refine x_metA (oh := o) (by decide) (Nat.le_of_ble_eq_true rfl) ?_
  intro p e s m below meth c ls C hl hW hZ
  have hl : lv_has ls 2 [(0, .ref x0)] := hl
  have hkl : Kl h h := Kl.rf h
  refine lv_aload_n C.1 C.2.1 dX11_init_0 rfl (lv_at hl 0 rfl) ?_
  refine W.objInit C.1 C.2.1 C.2.2.2.1 (C.2.2.2.2.1 _ m_31) (C.2.2.2.2.1 _ m_32) (C.2.2.2.2.1 _ m_33) rfl (by rw [C.2.2.1]; exact hl.1) rfl dX11_init_1 (Nat.le_of_ble_eq_true rfl) (Nat.le_of_ble_eq_true rfl) ?_
  refine W.eq (g2 := F0 m 4 ls []) rfl ?_
  refine lv_aload_n C.1 C.2.1 dX11_init_4 rfl (lv_at hl 0 rfl) ?_
  obtain ⟨a_1, ea_1, hE⟩ := nm_e2 hE
  obtain ⟨h_2, eh_2, hE⟩ := nm_e2 hE
  refine y_new C hW hZ hkl (moX11_init_8 hE) ⟨rfl, rfl⟩ i_X9 tyX9 tyX9_ok (by decide) rfl rfl dv_X9 m_34 m_35 m_2 eh_2 dX11_init_5 (fun _ hW km k_a_1 hZ => ?_)
  replace hkl := hkl.tr km
  refine x_nmA ea_1 ?_
  rw [← ea_1] at k_a_1
  replace k_x0 := km.at k_x0 (by decide)
  exact bX11_init_8 C k_x0 k_a_1 k_x0 hkl hW hZ _ (lv_sub hl [0] rfl) hE
theorem m_44 : Cond.fieldLink RX11 147 (TX9 1).1 (TX9 1).2.1 (TX9 1).2.2.1 ∈ W0 := w0_in (List.mem_append_right _ (List.mem_of_getElem? (i := 44) (by decide +kernel))) rfl
theorem m_912 : Cond.methodLink RX11 151 yX9_appendNumber ∈ W0 := w0_in (List.mem_append_right _ (List.mem_of_getElem? (i := 912) (by decide +kernel))) rfl
theorem m_913 : Cond.instanceMethod yX9_appendNumber ∈ W0 := w0_in (List.mem_append_right _ (List.mem_of_getElem? (i := 913) (by decide +kernel))) rfl
theorem m_914 : Cond.selects RX9 yX9_appendNumber yX9_appendNumber ∈ W0 := w0_in (List.mem_append_right _ (List.mem_of_getElem? (i := 914) (by decide +kernel))) rfl
theorem m_915 : Cond.code yX9_appendNumber cX9_appendNumber 2 none ∈ W0 := w0_in (List.mem_append_right _ (List.mem_of_getElem? (i := 915) (by decide +kernel))) rfl
section
variable {p : Program} {l : Launch} {e : Env} {R : Room} {s : State} {m : MethodId} {args : Array Value} {below : List Frame} {meth : Method} {c : Code} {H : Heap} {locs : List Loc} {cells slots : Nat} {Q : State → Prop}
variable {cc : ByteArray} {pc : Nat} {ls : Array Slot} {rest : List Value} {X : Ec} {h h1 : Hp} {nL : Nat} {rt : Option FieldType} {mn : String}
theorem gf_X11_147 {a : Nat} (C : Cx X p s m args meth c RX11 cc nL rt mn) (hW : Wx X h H) (ha : hK h a = 9) (hdg : decode cc pc = .ok (.getfield 147, 3)) (kk : W p l e R s m args below meth c H locs cells slots Q (F0 m (pc + 3) ls (.int (hI h a 1) :: rest))) : W p l e R s m args below meth c H locs cells slots Q (F0 m pc ls (.ref a :: rest)) :=
  y_geti C hW ha i_X9 (by decide) rfl (by decide) m_44 rfl hdg kk
end
theorem cw_X11_151 : cwd RX11 151 yX9_appendNumber cX9_appendNumber 2 none false 1 := ⟨m_915, m_912, m_2, ⟨m_913, m_914⟩, by decide, by decide, by decide +kernel⟩
theorem dX11_feed_0 : decode cX11_feed 0 = .ok (.aload_n 0, 1) := by decide +kernel
theorem dX11_feed_1 : decode cX11_feed 1 = .ok (.getfield 14, 3) := by decide +kernel
theorem dX11_feed_4 : decode cX11_feed 4 = .ok (.getfield 147, 3) := by decide +kernel
theorem dX11_feed_7 : decode cX11_feed 7 = .ok (.bipush 20, 2) := by decide +kernel
theorem dX11_feed_9 : decode cX11_feed 9 = .ok (.iadd, 1) := by decide +kernel
theorem dX11_feed_10 : decode cX11_feed 10 = .ok (.sipush 1200, 3) := by decide +kernel
theorem dX11_feed_13 : decode cX11_feed 13 = .ok (.if_icmp .le 6, 3) := by decide +kernel
theorem dX11_feed_16 : decode cX11_feed 16 = .ok (.bipush (-104), 2) := by decide +kernel
theorem dX11_feed_18 : decode cX11_feed 18 = .ok (.ireturn, 1) := by decide +kernel
theorem dX11_feed_19 : decode cX11_feed 19 = .ok (.aload_n 0, 1) := by decide +kernel
theorem dX11_feed_20 : decode cX11_feed 20 = .ok (.getfield 14, 3) := by decide +kernel
theorem dX11_feed_23 : decode cX11_feed 23 = .ok (.iload_n 1, 1) := by decide +kernel
theorem dX11_feed_24 : decode cX11_feed 24 = .ok (.invokevirtual 151, 3) := by decide +kernel
theorem dX11_feed_27 : decode cX11_feed 27 = .ok (.aload_n 0, 1) := by decide +kernel
theorem dX11_feed_28 : decode cX11_feed 28 = .ok (.getfield 14, 3) := by decide +kernel
theorem dX11_feed_31 : decode cX11_feed 31 = .ok (.iload_n 2, 1) := by decide +kernel
theorem dX11_feed_32 : decode cX11_feed 32 = .ok (.invokevirtual 151, 3) := by decide +kernel
theorem dX11_feed_35 : decode cX11_feed 35 = .ok (.aload_n 0, 1) := by decide +kernel
theorem dX11_feed_36 : decode cX11_feed 36 = .ok (.getfield 14, 3) := by decide +kernel
theorem dX11_feed_39 : decode cX11_feed 39 = .ok (.iload_n 3, 1) := by decide +kernel
theorem dX11_feed_40 : decode cX11_feed 40 = .ok (.invokevirtual 151, 3) := by decide +kernel
theorem dX11_feed_43 : decode cX11_feed 43 = .ok (.aload_n 0, 1) := by decide +kernel
theorem dX11_feed_44 : decode cX11_feed 44 = .ok (.getfield 14, 3) := by decide +kernel
theorem dX11_feed_47 : decode cX11_feed 47 = .ok (.iload 4, 2) := by decide +kernel
theorem dX11_feed_49 : decode cX11_feed 49 = .ok (.invokevirtual 151, 3) := by decide +kernel
theorem dX11_feed_52 : decode cX11_feed 52 = .ok (.aload_n 0, 1) := by decide +kernel
theorem dX11_feed_53 : decode cX11_feed 53 = .ok (.getfield 14, 3) := by decide +kernel
theorem dX11_feed_56 : decode cX11_feed 56 = .ok (.iload 5, 2) := by decide +kernel
theorem dX11_feed_58 : decode cX11_feed 58 = .ok (.invokevirtual 151, 3) := by decide +kernel
theorem dX11_feed_61 : decode cX11_feed 61 = .ok (.aload_n 0, 1) := by decide +kernel
theorem dX11_feed_62 : decode cX11_feed 62 = .ok (.getfield 14, 3) := by decide +kernel
theorem dX11_feed_65 : decode cX11_feed 65 = .ok (.getfield 147, 3) := by decide +kernel
theorem dX11_feed_68 : decode cX11_feed 68 = .ok (.ireturn, 1) := by decide +kernel
def sX11_feed (h : Hp) (x0 : Nat) (x1 : Int32) (x2 : Int32) (x3 : Int32) (x4 : Int32) (x5 : Int32) : Option (Int32 × Hp) := cl (hR h x0 0) fun r_1 => br (((hI h r_1 1) + (20 : Int32)) ≤ (1200 : Int32)) (cl (hR h x0 0) fun r_3 => cl (sX9_appendNumber h r_3 x1) fun o_4 => cl (hR o_4 x0 0) fun r_5 => cl (sX9_appendNumber o_4 r_5 x2) fun o_6 => cl (hR o_6 x0 0) fun r_7 => cl (sX9_appendNumber o_6 r_7 x3) fun o_8 => cl (hR o_8 x0 0) fun r_9 => cl (sX9_appendNumber o_8 r_9 x4) fun o_10 => cl (hR o_10 x0 0) fun r_11 => cl (sX9_appendNumber o_10 r_11 x5) fun o_12 => cl (hR o_12 x0 0) fun r_13 => some (hI o_12 r_13 1, o_12)) (some ((-104 : Int32), h))
set_option maxRecDepth 20000 in
theorem ct_X11_feed (l : Launch) (X : Ec) {h : Hp} {x0 : Nat} {x1 : Int32} {x2 : Int32} {x3 : Int32} {x4 : Int32} {x5 : Int32} {o : Int32 × Hp} (k_x0 : hK h x0 = 11) (hE : sX11_feed h x0 x1 x2 x3 x4 x5 = some o) : MetI l yX11_feed cX11_feed 6 (some .int) 2 42 X [.ref x0, .int x1, .int x2, .int x3, .int x4, .int x5] h o := by
  refine x_met (by decide) (Nat.le_of_ble_eq_true rfl) ?_
  intro p e s m below meth c ls C hl hW hZ
  have hl : lv_has ls 6 [(0, .ref x0), (1, .int x1), (2, .int x2), (3, .int x3), (4, .int x4), (5, .int x5)] := hl
  have hkm : Km h h := Km.rf h
  refine lv_aload_n C.1 C.2.1 dX11_feed_0 rfl (lv_at hl 0 rfl) ?_
  obtain ⟨r_1, er_1, hE⟩ := cl_e hE
  refine gf_X11_14 C hW k_x0 er_1 dX11_feed_1 (fun k_r_1 => ?_)
  refine gf_X11_147 C hW k_r_1 dX11_feed_4 ?_
  refine lv_bipush (v := (20 : Int32)) C.1 C.2.1 dX11_feed_7 (by decide) ?_
  refine lv_iadd C.1 C.2.1 dX11_feed_9 ?_
  refine lv_sipush (v := (1200 : Int32)) C.1 C.2.1 dX11_feed_10 (by decide) ?_
  refine lv_icmp_le (tgt := 19) C.1 C.2.1 dX11_feed_13 (by decide) (fun c_2 => ?_) (fun c_2 => ?_)
  · have hE := br_p hE c_2
    refine lv_aload_n C.1 C.2.1 dX11_feed_19 rfl (lv_at hl 0 rfl) ?_
    obtain ⟨r_3, er_3, hE⟩ := cl_e hE
    refine gf_X11_14 C hW k_x0 er_3 dX11_feed_20 (fun k_r_3 => ?_)
    refine lv_iload_n C.1 C.2.1 dX11_feed_23 rfl (lv_at hl 1 rfl) ?_
    obtain ⟨o_4, eo_4, hE⟩ := cl_e hE
    refine x_kV (o := o_4) (z_runV (As := [.int x1]) (rest := []) C (ct_X9_appendNumber l X k_r_3 eo_4) cw_X11_151 hW hZ k_r_3 (by decide) rfl rfl rfl hl.1 (Nat.le_of_ble_eq_true rfl) rfl dX11_feed_24 ⟨Nat.le_of_ble_eq_true rfl, Nat.le_of_ble_eq_true rfl⟩ ⟨Nat.le_refl _, Nat.le_refl _⟩) hZ (fun _ _ hW km hZ => ?_)
    replace hkm := hkm.tr km
    replace k_x0 := km.at k_x0 (by decide)
    refine lv_aload_n C.1 C.2.1 dX11_feed_27 rfl (lv_at hl 0 rfl) ?_
    obtain ⟨r_5, er_5, hE⟩ := cl_e hE
    refine gf_X11_14 C hW k_x0 er_5 dX11_feed_28 (fun k_r_5 => ?_)
    refine lv_iload_n C.1 C.2.1 dX11_feed_31 rfl (lv_at hl 2 rfl) ?_
    obtain ⟨o_6, eo_6, hE⟩ := cl_e hE
    refine x_kV (o := o_6) (z_runV (As := [.int x2]) (rest := []) C (ct_X9_appendNumber l X k_r_5 eo_6) cw_X11_151 hW hZ k_r_5 (by decide) rfl rfl rfl hl.1 (Nat.le_of_ble_eq_true rfl) rfl dX11_feed_32 ⟨Nat.le_of_ble_eq_true rfl, Nat.le_of_ble_eq_true rfl⟩ ⟨Nat.le_refl _, Nat.le_refl _⟩) hZ (fun _ _ hW km hZ => ?_)
    replace hkm := hkm.tr km
    replace k_x0 := km.at k_x0 (by decide)
    refine lv_aload_n C.1 C.2.1 dX11_feed_35 rfl (lv_at hl 0 rfl) ?_
    obtain ⟨r_7, er_7, hE⟩ := cl_e hE
    refine gf_X11_14 C hW k_x0 er_7 dX11_feed_36 (fun k_r_7 => ?_)
    refine lv_iload_n C.1 C.2.1 dX11_feed_39 rfl (lv_at hl 3 rfl) ?_
    obtain ⟨o_8, eo_8, hE⟩ := cl_e hE
    refine x_kV (o := o_8) (z_runV (As := [.int x3]) (rest := []) C (ct_X9_appendNumber l X k_r_7 eo_8) cw_X11_151 hW hZ k_r_7 (by decide) rfl rfl rfl hl.1 (Nat.le_of_ble_eq_true rfl) rfl dX11_feed_40 ⟨Nat.le_of_ble_eq_true rfl, Nat.le_of_ble_eq_true rfl⟩ ⟨Nat.le_refl _, Nat.le_refl _⟩) hZ (fun _ _ hW km hZ => ?_)
    replace hkm := hkm.tr km
    replace k_x0 := km.at k_x0 (by decide)
    refine lv_aload_n C.1 C.2.1 dX11_feed_43 rfl (lv_at hl 0 rfl) ?_
    obtain ⟨r_9, er_9, hE⟩ := cl_e hE
    refine gf_X11_14 C hW k_x0 er_9 dX11_feed_44 (fun k_r_9 => ?_)
    refine lv_iload C.1 C.2.1 dX11_feed_47 (lv_at hl 4 rfl) ?_
    obtain ⟨o_10, eo_10, hE⟩ := cl_e hE
    refine x_kV (o := o_10) (z_runV (As := [.int x4]) (rest := []) C (ct_X9_appendNumber l X k_r_9 eo_10) cw_X11_151 hW hZ k_r_9 (by decide) rfl rfl rfl hl.1 (Nat.le_of_ble_eq_true rfl) rfl dX11_feed_49 ⟨Nat.le_of_ble_eq_true rfl, Nat.le_of_ble_eq_true rfl⟩ ⟨Nat.le_refl _, Nat.le_refl _⟩) hZ (fun _ _ hW km hZ => ?_)
    replace hkm := hkm.tr km
    replace k_x0 := km.at k_x0 (by decide)
    refine lv_aload_n C.1 C.2.1 dX11_feed_52 rfl (lv_at hl 0 rfl) ?_
    obtain ⟨r_11, er_11, hE⟩ := cl_e hE
    refine gf_X11_14 C hW k_x0 er_11 dX11_feed_53 (fun k_r_11 => ?_)
    refine lv_iload C.1 C.2.1 dX11_feed_56 (lv_at hl 5 rfl) ?_
    obtain ⟨o_12, eo_12, hE⟩ := cl_e hE
    refine x_kV (o := o_12) (z_runV (As := [.int x5]) (rest := []) C (ct_X9_appendNumber l X k_r_11 eo_12) cw_X11_151 hW hZ k_r_11 (by decide) rfl rfl rfl hl.1 (Nat.le_of_ble_eq_true rfl) rfl dX11_feed_58 ⟨Nat.le_of_ble_eq_true rfl, Nat.le_of_ble_eq_true rfl⟩ ⟨Nat.le_refl _, Nat.le_refl _⟩) hZ (fun _ _ hW km hZ => ?_)
    replace hkm := hkm.tr km
    replace k_x0 := km.at k_x0 (by decide)
    refine lv_aload_n C.1 C.2.1 dX11_feed_61 rfl (lv_at hl 0 rfl) ?_
    obtain ⟨r_13, er_13, hE⟩ := cl_e hE
    refine gf_X11_14 C hW k_x0 er_13 dX11_feed_62 (fun k_r_13 => ?_)
    refine gf_X11_147 C hW k_r_13 dX11_feed_65 ?_
    exact x_iret C rfl rfl hW hZ hkm hE dX11_feed_68
  · have hE := br_n hE c_2
    refine lv_bipush (v := (-104 : Int32)) C.1 C.2.1 dX11_feed_16 (by decide) ?_
    exact x_iret C rfl rfl hW hZ hkm hE dX11_feed_18
section
variable {p : Program} {l : Launch} {e : Env} {R : Room} {s : State} {m : MethodId} {args : Array Value} {below : List Frame} {meth : Method} {c : Code} {H : Heap} {locs : List Loc} {cells slots : Nat} {Q : State → Prop}
variable {cc : ByteArray} {pc : Nat} {ls : Array Slot} {rest : List Value} {X : Ec} {h h1 : Hp} {nL : Nat} {rt : Option FieldType} {mn : String}
theorem pf_X11_147 {a : Nat} {v : Int32} (C : Cx X p s m args meth c RX11 cc nL rt mn) (hW : Wx X h H) (hZ : va_S (aA (eB X)) s.heap H locs) (ha : hK h a = 9) (eh : h1 = wI h a 1 v) (hdg : decode cc pc = .ok (.putfield 147, 3)) (kk : ∀ (H1 : Heap) (locs1 : List Loc), Wx X h1 H1 → Km h h1 → va_S (aA (eB X)) s.heap H1 locs1 → W p l e R s m args below meth c H1 locs1 cells slots Q (F0 m (pc + 3) ls rest)) : W p l e R s m args below meth c H locs cells slots Q (F0 m pc ls (.int v :: .ref a :: rest)) :=
  y_puti (ty := .int) C hW hZ ha i_X9 tyX9 tyX9_ok nmX9 (by decide) rfl rfl (by decide) m_44 rfl (by decide +kernel) rfl rfl rfl eh hdg kk
end
theorem dX11_end_0 : decode cX11_end 0 = .ok (.iload_n 1, 1) := by decide +kernel
theorem dX11_end_1 : decode cX11_end 1 = .ok (.ifCond .lt 14, 3) := by decide +kernel
theorem dX11_end_4 : decode cX11_end 4 = .ok (.iload_n 1, 1) := by decide +kernel
theorem dX11_end_5 : decode cX11_end 5 = .ok (.aload_n 0, 1) := by decide +kernel
theorem dX11_end_6 : decode cX11_end 6 = .ok (.getfield 14, 3) := by decide +kernel
theorem dX11_end_9 : decode cX11_end 9 = .ok (.getfield 147, 3) := by decide +kernel
theorem dX11_end_12 : decode cX11_end 12 = .ok (.if_icmp .le 6, 3) := by decide +kernel
theorem dX11_end_15 : decode cX11_end 15 = .ok (.bipush (-101), 2) := by decide +kernel
theorem dX11_end_17 : decode cX11_end 17 = .ok (.ireturn, 1) := by decide +kernel
theorem dX11_end_18 : decode cX11_end 18 = .ok (.aload_n 0, 1) := by decide +kernel
theorem dX11_end_19 : decode cX11_end 19 = .ok (.getfield 14, 3) := by decide +kernel
theorem dX11_end_22 : decode cX11_end 22 = .ok (.iload_n 1, 1) := by decide +kernel
theorem dX11_end_23 : decode cX11_end 23 = .ok (.putfield 147, 3) := by decide +kernel
theorem dX11_end_26 : decode cX11_end 26 = .ok (.iload_n 1, 1) := by decide +kernel
theorem dX11_end_27 : decode cX11_end 27 = .ok (.ireturn, 1) := by decide +kernel
def sX11_end_15 (h : Hp) : Option (Int32 × Hp) := some ((-101 : Int32), h)
def sX11_end (h : Hp) (x0 : Nat) (x1 : Int32) : Option (Int32 × Hp) := br (x1 < 0) (sX11_end_15  h ) (cl (hR h x0 0) fun r_2 => br (x1 ≤ (hI h r_2 1)) (cl (hR h x0 0) fun r_4 => nm (wI h r_4 1 x1) fun h_5 => some (x1, h_5)) (sX11_end_15  h ))
set_option maxRecDepth 20000 in
theorem bX11_end_15 {p : Program} {l : Launch} {e : Env} {s : State} {m : MethodId} {args : Array Value} {below : List Frame} {meth : Method} {c : Code} {X : Ec} {h0 : Hp} {o : Int32 × Hp} (C : Cx X p s m args meth c RX11 cX11_end 2 (some .int) "end") {h : Hp} {H : Heap} {locs : List Loc} (hkm : Km h0 h) (hW : Wx X h H) (hZ : va_S (aA (eB X)) s.heap H locs) (ls : Array Slot) (hl : lv_has ls 2 []) (hE : sX11_end_15 h  = some o) : W p l e (rm 0 0) s m args below meth c H locs 0 0 (MQ below (QI X h0 o.1 o.2) args s 0 0 (aA (eB X))) (F0 m 15 ls []) := by
  refine lv_bipush (v := (-101 : Int32)) C.1 C.2.1 dX11_end_15 (by decide) ?_
  exact x_iret C rfl rfl hW hZ hkm hE dX11_end_17
set_option maxRecDepth 20000 in
theorem ct_X11_end (l : Launch) (X : Ec) {h : Hp} {x0 : Nat} {x1 : Int32} {o : Int32 × Hp} (k_x0 : hK h x0 = 11) (hE : sX11_end h x0 x1 = some o) : MetI l yX11_end cX11_end 2 (some .int) 0 0 X [.ref x0, .int x1] h o := by
  refine x_met (by decide) (Nat.le_of_ble_eq_true rfl) ?_
  intro p e s m below meth c ls C hl hW hZ
  have hl : lv_has ls 2 [(0, .ref x0), (1, .int x1)] := hl
  have hkm : Km h h := Km.rf h
  refine lv_iload_n C.1 C.2.1 dX11_end_0 rfl (lv_at hl 1 rfl) ?_
  refine lv_if_lt (tgt := 15) C.1 C.2.1 dX11_end_1 (by decide) (fun c_1 => ?_) (fun c_1 => ?_)
  · have hE := br_p hE c_1
    exact bX11_end_15 C hkm hW hZ _ (lv_sub hl [] rfl) hE
  · have hE := br_n hE c_1
    refine lv_iload_n C.1 C.2.1 dX11_end_4 rfl (lv_at hl 1 rfl) ?_
    refine lv_aload_n C.1 C.2.1 dX11_end_5 rfl (lv_at hl 0 rfl) ?_
    obtain ⟨r_2, er_2, hE⟩ := cl_e hE
    refine gf_X11_14 C hW k_x0 er_2 dX11_end_6 (fun k_r_2 => ?_)
    refine gf_X11_147 C hW k_r_2 dX11_end_9 ?_
    refine lv_icmp_le (tgt := 18) C.1 C.2.1 dX11_end_12 (by decide) (fun c_3 => ?_) (fun c_3 => ?_)
    · have hE := br_p hE c_3
      refine lv_aload_n C.1 C.2.1 dX11_end_18 rfl (lv_at hl 0 rfl) ?_
      obtain ⟨r_4, er_4, hE⟩ := cl_e hE
      refine gf_X11_14 C hW k_x0 er_4 dX11_end_19 (fun k_r_4 => ?_)
      refine lv_iload_n C.1 C.2.1 dX11_end_22 rfl (lv_at hl 1 rfl) ?_
      obtain ⟨h_5, eh_5, hE⟩ := nm_e2 hE
      refine pf_X11_147 C hW hZ k_r_4 eh_5 dX11_end_23 (fun _ _ hW km hZ => ?_)
      replace hkm := hkm.tr km
      replace k_x0 := km.at k_x0 (by decide)
      refine lv_iload_n C.1 C.2.1 dX11_end_26 rfl (lv_at hl 1 rfl) ?_
      exact x_iret C rfl rfl hW hZ hkm hE dX11_end_27
    · have hE := br_n hE c_3
      exact bX11_end_15 C hkm hW hZ _ (lv_sub hl [] rfl) hE
theorem m_429 : Cond.fieldLink RX11 352 (TX6 6).1 (TX6 6).2.1 (TX6 6).2.2.1 ∈ W0 := w0_in (List.mem_append_right _ (List.mem_of_getElem? (i := 429) (by decide +kernel))) rfl
theorem m_468 : Cond.fieldLink RX11 379 (TX0 10).1 (TX0 10).2.1 (TX0 10).2.2.1 ∈ W0 := w0_in (List.mem_append_right _ (List.mem_of_getElem? (i := 468) (by decide +kernel))) rfl
theorem m_932 : Cond.methodLink RX11 197 yX4_forget ∈ W0 := w0_in (List.mem_append_right _ (List.mem_of_getElem? (i := 932) (by decide +kernel))) rfl
theorem m_933 : Cond.instanceMethod yX4_forget ∈ W0 := w0_in (List.mem_append_right _ (List.mem_of_getElem? (i := 933) (by decide +kernel))) rfl
theorem m_934 : Cond.selects RX4 yX4_forget yX4_forget ∈ W0 := w0_in (List.mem_append_right _ (List.mem_of_getElem? (i := 934) (by decide +kernel))) rfl
theorem m_935 : Cond.code yX4_forget cX4_forget 2 none ∈ W0 := w0_in (List.mem_append_right _ (List.mem_of_getElem? (i := 935) (by decide +kernel))) rfl
section
variable {p : Program} {l : Launch} {e : Env} {R : Room} {s : State} {m : MethodId} {args : Array Value} {below : List Frame} {meth : Method} {c : Code} {H : Heap} {locs : List Loc} {cells slots : Nat} {Q : State → Prop}
variable {cc : ByteArray} {pc : Nat} {ls : Array Slot} {rest : List Value} {X : Ec} {h h1 : Hp} {nL : Nat} {rt : Option FieldType} {mn : String}
theorem gf_X11_77 {a r : Nat} (C : Cx X p s m args meth c RX11 cc nL rt mn) (hW : Wx X h H) (ha : hK h a = 11) (hr : hR h a 9 = some r) (hdg : decode cc pc = .ok (.getfield 77, 3)) (kk : hK h r = 6 → W p l e R s m args below meth c H locs cells slots Q (F0 m (pc + 3) ls (.ref r :: rest))) : W p l e R s m args below meth c H locs cells slots Q (F0 m pc ls (.ref a :: rest)) :=
  y_getr C hW ha i_X11 (by decide) rfl (by decide) m_861 rfl rfl hr hdg kk
theorem pf_X11_352 {a : Nat} {v : Int32} (C : Cx X p s m args meth c RX11 cc nL rt mn) (hW : Wx X h H) (hZ : va_S (aA (eB X)) s.heap H locs) (ha : hK h a = 6) (eh : h1 = wI h a 6 v) (hdg : decode cc pc = .ok (.putfield 352, 3)) (kk : ∀ (H1 : Heap) (locs1 : List Loc), Wx X h1 H1 → Km h h1 → va_S (aA (eB X)) s.heap H1 locs1 → W p l e R s m args below meth c H1 locs1 cells slots Q (F0 m (pc + 3) ls rest)) : W p l e R s m args below meth c H locs cells slots Q (F0 m pc ls (.int v :: .ref a :: rest)) :=
  y_puti (ty := .int) C hW hZ ha i_X6 tyX6 tyX6_ok nmX6 (by decide) rfl rfl (by decide) m_429 rfl (by decide +kernel) rfl rfl rfl eh hdg kk
theorem gf_X11_84 {a r : Nat} (C : Cx X p s m args meth c RX11 cc nL rt mn) (hW : Wx X h H) (ha : hK h a = 11) (hr : hR h a 10 = some r) (hdg : decode cc pc = .ok (.getfield 84, 3)) (kk : hK h r = 0 → W p l e R s m args below meth c H locs cells slots Q (F0 m (pc + 3) ls (.ref r :: rest))) : W p l e R s m args below meth c H locs cells slots Q (F0 m pc ls (.ref a :: rest)) :=
  y_getr C hW ha i_X11 (by decide) rfl (by decide) m_862 rfl rfl hr hdg kk
theorem pf_X11_379 {a : Nat} {v : Int32} (C : Cx X p s m args meth c RX11 cc nL rt mn) (hW : Wx X h H) (hZ : va_S (aA (eB X)) s.heap H locs) (ha : hK h a = 0) (hn : narrow .boolean (.int v) = .int v) (eh : h1 = wI h a 10 v) (hdg : decode cc pc = .ok (.putfield 379, 3)) (kk : ∀ (H1 : Heap) (locs1 : List Loc), Wx X h1 H1 → Km h h1 → va_S (aA (eB X)) s.heap H1 locs1 → W p l e R s m args below meth c H1 locs1 cells slots Q (F0 m (pc + 3) ls rest)) : W p l e R s m args below meth c H locs cells slots Q (F0 m pc ls (.int v :: .ref a :: rest)) :=
  y_puti (ty := .boolean) C hW hZ ha i_X0 tyX0 tyX0_ok nmX0 (by decide) rfl rfl (by decide) m_468 rfl (by decide +kernel) rfl hn (fitZ hn) eh hdg kk
theorem gf_X11_107 {a r : Nat} (C : Cx X p s m args meth c RX11 cc nL rt mn) (hW : Wx X h H) (ha : hK h a = 11) (hr : hR h a 14 = some r) (hdg : decode cc pc = .ok (.getfield 107, 3)) (kk : hK h r = 19 → W p l e R s m args below meth c H locs cells slots Q (F0 m (pc + 3) ls (.ref r :: rest))) : W p l e R s m args below meth c H locs cells slots Q (F0 m pc ls (.ref a :: rest)) :=
  y_getr C hW ha i_X11 (by decide) rfl (by decide) m_866 rfl rfl hr hdg kk
theorem gf_X11_93 {a r : Nat} (C : Cx X p s m args meth c RX11 cc nL rt mn) (hW : Wx X h H) (ha : hK h a = 11) (hr : hR h a 11 = some r) (hdg : decode cc pc = .ok (.getfield 93, 3)) (kk : hK h r = 4 → W p l e R s m args below meth c H locs cells slots Q (F0 m (pc + 3) ls (.ref r :: rest))) : W p l e R s m args below meth c H locs cells slots Q (F0 m pc ls (.ref a :: rest)) :=
  y_getr C hW ha i_X11 (by decide) rfl (by decide) m_863 rfl rfl hr hdg kk
end
theorem cw_X11_197 : cwd RX11 197 yX4_forget cX4_forget 2 none false 1 := ⟨m_935, m_932, m_14, ⟨m_933, m_934⟩, by decide, by decide, by decide +kernel⟩
theorem dX11_forgetAll_0 : decode cX11_forgetAll 0 = .ok (.aload_n 0, 1) := by decide +kernel
theorem dX11_forgetAll_1 : decode cX11_forgetAll 1 = .ok (.getfield 117, 3) := by decide +kernel
theorem dX11_forgetAll_4 : decode cX11_forgetAll 4 = .ok (.iconst (-1), 1) := by decide +kernel
theorem dX11_forgetAll_5 : decode cX11_forgetAll 5 = .ok (.invokestatic 121, 3) := by decide +kernel
theorem dX11_forgetAll_8 : decode cX11_forgetAll 8 = .ok (.iconst 0, 1) := by decide +kernel
theorem dX11_forgetAll_9 : decode cX11_forgetAll 9 = .ok (.istore_n 1, 1) := by decide +kernel
theorem dX11_forgetAll_10 : decode cX11_forgetAll 10 = .ok (.iload_n 1, 1) := by decide +kernel
theorem dX11_forgetAll_11 : decode cX11_forgetAll 11 = .ok (.bipush 60, 2) := by decide +kernel
theorem dX11_forgetAll_13 : decode cX11_forgetAll 13 = .ok (.if_icmp .ge 24, 3) := by decide +kernel
theorem dX11_forgetAll_16 : decode cX11_forgetAll 16 = .ok (.aload_n 0, 1) := by decide +kernel
theorem dX11_forgetAll_17 : decode cX11_forgetAll 17 = .ok (.getfield 107, 3) := by decide +kernel
theorem dX11_forgetAll_20 : decode cX11_forgetAll 20 = .ok (.iload_n 1, 1) := by decide +kernel
theorem dX11_forgetAll_21 : decode cX11_forgetAll 21 = .ok (.iconst 0, 1) := by decide +kernel
theorem dX11_forgetAll_22 : decode cX11_forgetAll 22 = .ok (.bastore, 1) := by decide +kernel
theorem dX11_forgetAll_23 : decode cX11_forgetAll 23 = .ok (.aload_n 0, 1) := by decide +kernel
theorem dX11_forgetAll_24 : decode cX11_forgetAll 24 = .ok (.getfield 93, 3) := by decide +kernel
theorem dX11_forgetAll_27 : decode cX11_forgetAll 27 = .ok (.iload_n 1, 1) := by decide +kernel
theorem dX11_forgetAll_28 : decode cX11_forgetAll 28 = .ok (.invokevirtual 197, 3) := by decide +kernel
theorem dX11_forgetAll_31 : decode cX11_forgetAll 31 = .ok (.iinc 1 1, 3) := by decide +kernel
theorem dX11_forgetAll_34 : decode cX11_forgetAll 34 = .ok (.goto (-24), 3) := by decide +kernel
theorem dX11_forgetAll_37 : decode cX11_forgetAll 37 = .ok (.aload_n 0, 1) := by decide +kernel
theorem dX11_forgetAll_38 : decode cX11_forgetAll 38 = .ok (.getfield 77, 3) := by decide +kernel
theorem dX11_forgetAll_41 : decode cX11_forgetAll 41 = .ok (.iconst 0, 1) := by decide +kernel
theorem dX11_forgetAll_42 : decode cX11_forgetAll 42 = .ok (.putfield 352, 3) := by decide +kernel
theorem dX11_forgetAll_45 : decode cX11_forgetAll 45 = .ok (.aload_n 0, 1) := by decide +kernel
theorem dX11_forgetAll_46 : decode cX11_forgetAll 46 = .ok (.getfield 84, 3) := by decide +kernel
theorem dX11_forgetAll_49 : decode cX11_forgetAll 49 = .ok (.iconst 0, 1) := by decide +kernel
theorem dX11_forgetAll_50 : decode cX11_forgetAll 50 = .ok (.putfield 379, 3) := by decide +kernel
theorem dX11_forgetAll_53 : decode cX11_forgetAll 53 = .ok (.return_, 1) := by decide +kernel
def sX11_forgetAll_10 (F : Nat) : Nat → Hp → Nat → Int32 → Option (Hp)
  | 0, _, _, _ => none
  | f + 1, h, x0, x1 => br ((60 : Int32) ≤ x1) (cl (hR h x0 9) fun r_2 => nm (wI h r_2 6 (0 : Int32)) fun h_3 => cl (hR h_3 x0 10) fun r_4 => nm (wI h_3 r_4 10 (0 : Int32)) fun h_5 => some h_5) (cl (hR h x0 14) fun r_6 => gd (inB x1 (hN h r_6)) <| nm (wI h r_6 x1.toNatClampNeg (vp_nar .boolean (0 : Int32))) fun h_8 => cl (hR h_8 x0 11) fun r_9 => cl (sX4_forget h_8 r_9 x1) fun o_10 => nm (x1 + (1 : Int32)) fun v_11 => sX11_forgetAll_10 F f o_10 x0 v_11)
def sX11_forgetAll (F : Nat) (h : Hp) (x0 : Nat) : Option (Hp) := cl (hR h x0 17) fun r_1 => cl (sJ7_fill_53178 F h r_1 (-1 : Int32)) fun o_2 => sX11_forgetAll_10 F F o_2 x0 (0 : Int32)
set_option maxRecDepth 20000 in
theorem moX11_forgetAll_10 {o : Hp} {F : Nat} : ∀ (f : Nat) {h : Hp} {x0 : Nat} {x1 : Int32}, sX11_forgetAll_10 F f h x0 x1 = some o → Le h o := by
  intro f
  induction f with
  | zero =>
    intro h x0 x1 hE
    rw [sX11_forgetAll_10] at hE
    cases hE
  | succ f ih =>
    intro h x0 x1 hE
    rw [sX11_forgetAll_10] at hE
    have mk_10 : ∀ (h : Hp) (x0 : Nat) (x1 : Int32), sX11_forgetAll_10 F f h x0 x1 = some o → Le h o := fun h x0 x1 hE => ih hE
    rcases br_e hE with ⟨_, hE⟩ | ⟨_, hE⟩
    · obtain ⟨r_2, er_2, hE⟩ := cl_e hE
      obtain ⟨h_3, eh_3, hE⟩ := nm_e2 hE
      refine (le_I eh_3).tr ?_
      obtain ⟨r_4, er_4, hE⟩ := cl_e hE
      obtain ⟨h_5, eh_5, hE⟩ := nm_e2 hE
      refine (le_I eh_5).tr ?_
      cases hE
      exact Le.rf _
    · obtain ⟨r_6, er_6, hE⟩ := cl_e hE
      obtain ⟨g_7, hE⟩ := gd_e hE
      obtain ⟨h_8, eh_8, hE⟩ := nm_e2 hE
      refine (le_I eh_8).tr ?_
      obtain ⟨r_9, er_9, hE⟩ := cl_e hE
      obtain ⟨o_10, eo_10, hE⟩ := cl_e hE
      refine (moX4_forget eo_10).tr ?_
      obtain ⟨v_11, ev_11, hE⟩ := nm_e2 hE
      exact mk_10 _ _ _ hE
set_option maxRecDepth 20000 in
theorem moX11_forgetAll {o : Hp} {F : Nat} {h : Hp} {x0 : Nat} (hE : sX11_forgetAll F h x0 = some o) : Le h o := by
  obtain ⟨r_1, er_1, hE⟩ := cl_e hE
  obtain ⟨o_2, eo_2, hE⟩ := cl_e hE
  refine (moJ7_fill_53178 eo_2).tr ?_
  exact moX11_forgetAll_10 _ hE
set_option maxRecDepth 20000 in
theorem bX11_forgetAll_10 {p : Program} {l : Launch} {e : Env} {s : State} {m : MethodId} {args : Array Value} {below : List Frame} {meth : Method} {c : Code} {X : Ec} {h0 : Hp} {o : Hp} {F : Nat} (C : Cx X p s m args meth c RX11 cX11_forgetAll 2 none "forgetAll") : ∀ (f : Nat) {h : Hp} {x0 : Nat} {x1 : Int32} {H : Heap} {locs : List Loc} (k_x0 : hK h x0 = 11), Km h0 h → Wx X h H → va_S (aA (eB X)) s.heap H locs → ∀ (ls : Array Slot), lv_has ls 2 [(0, .ref x0), (1, .int x1)] → sX11_forgetAll_10 F f h x0 x1 = some o → W p l e (rm 1 23) s m args below meth c H locs 0 0 (MQ below (QV X h0 o) args s 0 0 (aA (eB X))) (F0 m 10 ls []) := by
  intro f
  induction f with
  | zero =>
    intro h x0 x1 H locs k_x0 hkm hW hZ ls hl hE
    rw [sX11_forgetAll_10] at hE
    cases hE
  | succ f ih =>
    intro h x0 x1 H locs k_x0 hkm hW hZ ls hl hE
    rw [sX11_forgetAll_10] at hE
    have hk_10 : ∀ (h : Hp) (x0 : Nat) (x1 : Int32) (H : Heap) (locs : List Loc), hK h x0 = 11 → Km h0 h → Wx X h H → va_S (aA (eB X)) s.heap H locs → ∀ (ls : Array Slot), lv_has ls 2 [(0, .ref x0), (1, .int x1)] → sX11_forgetAll_10 F f h x0 x1 = some o → W p l e (rm 1 23) s m args below meth c H locs 0 0 (MQ below (QV X h0 o) args s 0 0 (aA (eB X))) (F0 m 10 ls []) := fun h x0 x1 H locs k_x0 a b c ls hl hE => ih k_x0 a b c ls hl hE
    refine lv_iload_n C.1 C.2.1 dX11_forgetAll_10 rfl (lv_at hl 1 rfl) ?_
    refine lv_bipush (v := (60 : Int32)) C.1 C.2.1 dX11_forgetAll_11 (by decide) ?_
    refine lv_icmp_ge (tgt := 37) C.1 C.2.1 dX11_forgetAll_13 (by decide) (fun c_1 => ?_) (fun c_1 => ?_)
    · have hE := br_p hE c_1
      refine lv_aload_n C.1 C.2.1 dX11_forgetAll_37 rfl (lv_at hl 0 rfl) ?_
      obtain ⟨r_2, er_2, hE⟩ := cl_e hE
      refine gf_X11_77 C hW k_x0 er_2 dX11_forgetAll_38 (fun k_r_2 => ?_)
      refine lv_iconst (v := (0 : Int32)) C.1 C.2.1 dX11_forgetAll_41 (by decide) ?_
      obtain ⟨h_3, eh_3, hE⟩ := nm_e2 hE
      refine pf_X11_352 C hW hZ k_r_2 eh_3 dX11_forgetAll_42 (fun _ _ hW km hZ => ?_)
      replace hkm := hkm.tr km
      replace k_x0 := km.at k_x0 (by decide)
      refine lv_aload_n C.1 C.2.1 dX11_forgetAll_45 rfl (lv_at hl 0 rfl) ?_
      obtain ⟨r_4, er_4, hE⟩ := cl_e hE
      refine gf_X11_84 C hW k_x0 er_4 dX11_forgetAll_46 (fun k_r_4 => ?_)
      refine lv_iconst (v := (0 : Int32)) C.1 C.2.1 dX11_forgetAll_49 (by decide) ?_
      obtain ⟨h_5, eh_5, hE⟩ := nm_e2 hE
      refine pf_X11_379 C hW hZ k_r_4 (by decide) eh_5 dX11_forgetAll_50 (fun _ _ hW km hZ => ?_)
      replace hkm := hkm.tr km
      replace k_x0 := km.at k_x0 (by decide)
      exact x_vret C rfl hW hZ hkm hE dX11_forgetAll_53
    · have hE := br_n hE c_1
      refine lv_aload_n C.1 C.2.1 dX11_forgetAll_16 rfl (lv_at hl 0 rfl) ?_
      obtain ⟨r_6, er_6, hE⟩ := cl_e hE
      refine gf_X11_107 C hW k_x0 er_6 dX11_forgetAll_17 (fun k_r_6 => ?_)
      refine lv_iload_n C.1 C.2.1 dX11_forgetAll_20 rfl (lv_at hl 1 rfl) ?_
      refine lv_iconst (v := (0 : Int32)) C.1 C.2.1 dX11_forgetAll_21 (by decide) ?_
      obtain ⟨g_7, hE⟩ := gd_e hE
      obtain ⟨h_8, eh_8, hE⟩ := nm_e2 hE
      refine y_zast C hW hZ k_r_6 g_7 eh_8 dX11_forgetAll_22 (fun _ _ hW km hZ => ?_)
      replace hkm := hkm.tr km
      replace k_x0 := km.at k_x0 (by decide)
      refine lv_aload_n C.1 C.2.1 dX11_forgetAll_23 rfl (lv_at hl 0 rfl) ?_
      obtain ⟨r_9, er_9, hE⟩ := cl_e hE
      refine gf_X11_93 C hW k_x0 er_9 dX11_forgetAll_24 (fun k_r_9 => ?_)
      refine lv_iload_n C.1 C.2.1 dX11_forgetAll_27 rfl (lv_at hl 1 rfl) ?_
      obtain ⟨o_10, eo_10, hE⟩ := cl_e hE
      refine x_kV (o := o_10) (z_runV (As := [.int x1]) (rest := []) C (ct_X4_forget l X k_r_9 eo_10) cw_X11_197 hW hZ k_r_9 (by decide) rfl rfl rfl hl.1 (Nat.le_of_ble_eq_true rfl) rfl dX11_forgetAll_28 ⟨Nat.le_of_ble_eq_true rfl, Nat.le_of_ble_eq_true rfl⟩ ⟨Nat.le_refl _, Nat.le_refl _⟩) hZ (fun _ _ hW km hZ => ?_)
      replace hkm := hkm.tr km
      replace k_x0 := km.at k_x0 (by decide)
      obtain ⟨v_11, ev_11, hE⟩ := nm_e2 hE
      refine lv_iinc (v := v_11) (lv' := [(1, .int v_11), (0, .ref x0)]) C.1 C.2.1 dX11_forgetAll_31 hl (k := 1) rfl (by rw [ev_11]; rfl) (by decide) rfl (fun ls hl => ?_)
      refine lv_goto (tgt := 10) C.1 C.2.1 dX11_forgetAll_34 (by decide) ?_
      exact hk_10 _ _ _ _ _ k_x0 hkm hW hZ _ (lv_sub hl [1, 0] rfl) hE
set_option maxRecDepth 20000 in
theorem ct_X11_forgetAll (l : Launch) (X : Ec) (F : Nat) {h : Hp} {x0 : Nat} {o : Hp} (k_x0 : hK h x0 = 11) (hE : sX11_forgetAll F h x0 = some o) : MetV l yX11_forgetAll cX11_forgetAll 2 none 1 23 X [.ref x0] h o := by
  refine x_met (by decide) (Nat.le_of_ble_eq_true rfl) ?_
  intro p e s m below meth c ls C hl hW hZ
  have hl : lv_has ls 2 [(0, .ref x0)] := hl
  have hkm : Km h h := Km.rf h
  refine lv_aload_n C.1 C.2.1 dX11_forgetAll_0 rfl (lv_at hl 0 rfl) ?_
  obtain ⟨r_1, er_1, hE⟩ := cl_e hE
  refine gf_X11_117 C hW k_x0 er_1 dX11_forgetAll_1 (fun k_r_1 => ?_)
  refine lv_iconst (v := (-1 : Int32)) C.1 C.2.1 dX11_forgetAll_4 (by decide) ?_
  obtain ⟨o_2, eo_2, hE⟩ := cl_e hE
  refine x_kV (o := o_2) (z_runS (As := [.ref r_1, .int (-1 : Int32)]) (rest := []) C (ct_J7_fill_53178 l X F k_r_1 eo_2) cw_X11_121 hW hZ rfl hl.1 (Nat.le_of_ble_eq_true rfl) rfl dX11_forgetAll_5 ⟨Nat.le_of_ble_eq_true rfl, Nat.le_of_ble_eq_true rfl⟩ ⟨Nat.le_refl _, Nat.le_refl _⟩) hZ (fun _ _ hW km hZ => ?_)
  replace hkm := hkm.tr km
  replace k_x0 := km.at k_x0 (by decide)
  refine lv_iconst (v := (0 : Int32)) C.1 C.2.1 dX11_forgetAll_8 (by decide) ?_
  refine lv_istore_n (lv' := [(1, .int (0 : Int32)), (0, .ref x0)]) C.1 C.2.1 dX11_forgetAll_9 rfl hl (by decide) rfl (fun ls hl => ?_)
  exact bX11_forgetAll_10 C F k_x0 hkm hW hZ _ (lv_sub hl [1, 0] rfl) hE
theorem ms_28 : Cond.selects RX11 yX11_forgetAll yX11_forgetAll ∈ W0 := w0_in (List.mem_append_left _ (List.mem_of_getElem? (i := 28) (by decide +kernel))) rfl
theorem m_81 : Cond.fieldLink RX11 161 (TX1 3).1 (TX1 3).2.1 (TX1 3).2.2.1 ∈ W0 := w0_in (List.mem_append_right _ (List.mem_of_getElem? (i := 81) (by decide +kernel))) rfl
theorem m_924 : Cond.methodLink RX11 154 yX2_faultPlace ∈ W0 := w0_in (List.mem_append_right _ (List.mem_of_getElem? (i := 924) (by decide +kernel))) rfl
theorem m_925 : Cond.instanceMethod yX2_faultPlace ∈ W0 := w0_in (List.mem_append_right _ (List.mem_of_getElem? (i := 925) (by decide +kernel))) rfl
theorem m_926 : Cond.selects RX2 yX2_faultPlace yX2_faultPlace ∈ W0 := w0_in (List.mem_append_right _ (List.mem_of_getElem? (i := 926) (by decide +kernel))) rfl
theorem m_927 : Cond.code yX2_faultPlace cX2_faultPlace 1 (some .int) ∈ W0 := w0_in (List.mem_append_right _ (List.mem_of_getElem? (i := 927) (by decide +kernel))) rfl
theorem m_928 : Cond.methodLink RX11 158 yX11_forgetAll ∈ W0 := w0_in (List.mem_append_right _ (List.mem_of_getElem? (i := 928) (by decide +kernel))) rfl
theorem m_930 : Cond.instanceMethod yX11_forgetAll ∈ W0 := w0_in (List.mem_append_right _ (List.mem_of_getElem? (i := 930) (by decide +kernel))) rfl
theorem m_931 : Cond.code yX11_forgetAll cX11_forgetAll 2 none ∈ W0 := w0_in (List.mem_append_right _ (List.mem_of_getElem? (i := 931) (by decide +kernel))) rfl
section
variable {p : Program} {l : Launch} {e : Env} {R : Room} {s : State} {m : MethodId} {args : Array Value} {below : List Frame} {meth : Method} {c : Code} {H : Heap} {locs : List Loc} {cells slots : Nat} {Q : State → Prop}
variable {cc : ByteArray} {pc : Nat} {ls : Array Slot} {rest : List Value} {X : Ec} {h h1 : Hp} {nL : Nat} {rt : Option FieldType} {mn : String}
theorem gf_X11_161 {a : Nat} (C : Cx X p s m args meth c RX11 cc nL rt mn) (hW : Wx X h H) (ha : hK h a = 1) (hdg : decode cc pc = .ok (.getfield 161, 3)) (kk : W p l e R s m args below meth c H locs cells slots Q (F0 m (pc + 3) ls (.int (hI h a 3) :: rest))) : W p l e R s m args below meth c H locs cells slots Q (F0 m pc ls (.ref a :: rest)) :=
  y_geti C hW ha i_X1 (by decide) rfl (by decide) m_81 rfl hdg kk
theorem gf_X11_28 {a r : Nat} (C : Cx X p s m args meth c RX11 cc nL rt mn) (hW : Wx X h H) (ha : hK h a = 11) (hr : hR h a 3 = some r) (hdg : decode cc pc = .ok (.getfield 28, 3)) (kk : hK h r = 1 → W p l e R s m args below meth c H locs cells slots Q (F0 m (pc + 3) ls (.ref r :: rest))) : W p l e R s m args below meth c H locs cells slots Q (F0 m pc ls (.ref a :: rest)) :=
  y_getr C hW ha i_X11 (by decide) rfl (by decide) m_855 rfl rfl hr hdg kk
end
theorem cw_X11_158 : cwd RX11 158 yX11_forgetAll cX11_forgetAll 2 none false 0 := ⟨m_931, m_928, m_1, ⟨m_930, ms_28⟩, by decide, by decide, by decide +kernel⟩
theorem cw_X11_154 : cwd RX11 154 yX2_faultPlace cX2_faultPlace 1 (some .int) false 0 := ⟨m_927, m_924, m_5, ⟨m_925, m_926⟩, by decide, by decide, by decide +kernel⟩
theorem dX11_rules_0 : decode cX11_rules 0 = .ok (.aload_n 0, 1) := by decide +kernel
theorem dX11_rules_1 : decode cX11_rules 1 = .ok (.getfield 34, 3) := by decide +kernel
theorem dX11_rules_4 : decode cX11_rules 4 = .ok (.aload_n 0, 1) := by decide +kernel
theorem dX11_rules_5 : decode cX11_rules 5 = .ok (.getfield 14, 3) := by decide +kernel
theorem dX11_rules_8 : decode cX11_rules 8 = .ok (.aload_n 0, 1) := by decide +kernel
theorem dX11_rules_9 : decode cX11_rules 9 = .ok (.getfield 28, 3) := by decide +kernel
theorem dX11_rules_12 : decode cX11_rules 12 = .ok (.invokevirtual 137, 3) := by decide +kernel
theorem dX11_rules_15 : decode cX11_rules 15 = .ok (.istore_n 1, 1) := by decide +kernel
theorem dX11_rules_16 : decode cX11_rules 16 = .ok (.iconst (-1), 1) := by decide +kernel
theorem dX11_rules_17 : decode cX11_rules 17 = .ok (.aload_n 0, 1) := by decide +kernel
theorem dX11_rules_18 : decode cX11_rules 18 = .ok (.getfield 34, 3) := by decide +kernel
theorem dX11_rules_21 : decode cX11_rules 21 = .ok (.invokevirtual 154, 3) := by decide +kernel
theorem dX11_rules_24 : decode cX11_rules 24 = .ok (.isub, 1) := by decide +kernel
theorem dX11_rules_25 : decode cX11_rules 25 = .ok (.istore_n 2, 1) := by decide +kernel
theorem dX11_rules_26 : decode cX11_rules 26 = .ok (.iload_n 1, 1) := by decide +kernel
theorem dX11_rules_27 : decode cX11_rules 27 = .ok (.ifCond .eq 42, 3) := by decide +kernel
theorem dX11_rules_30 : decode cX11_rules 30 = .ok (.aload_n 0, 1) := by decide +kernel
theorem dX11_rules_31 : decode cX11_rules 31 = .ok (.getfield 34, 3) := by decide +kernel
theorem dX11_rules_34 : decode cX11_rules 34 = .ok (.aload_n 0, 1) := by decide +kernel
theorem dX11_rules_35 : decode cX11_rules 35 = .ok (.getfield 14, 3) := by decide +kernel
theorem dX11_rules_38 : decode cX11_rules 38 = .ok (.aload_n 0, 1) := by decide +kernel
theorem dX11_rules_39 : decode cX11_rules 39 = .ok (.getfield 24, 3) := by decide +kernel
theorem dX11_rules_42 : decode cX11_rules 42 = .ok (.invokevirtual 137, 3) := by decide +kernel
theorem dX11_rules_45 : decode cX11_rules 45 = .ok (.pop, 1) := by decide +kernel
theorem dX11_rules_46 : decode cX11_rules 46 = .ok (.aload_n 0, 1) := by decide +kernel
theorem dX11_rules_47 : decode cX11_rules 47 = .ok (.getfield 41, 3) := by decide +kernel
theorem dX11_rules_50 : decode cX11_rules 50 = .ok (.aload_n 0, 1) := by decide +kernel
theorem dX11_rules_51 : decode cX11_rules 51 = .ok (.getfield 24, 3) := by decide +kernel
theorem dX11_rules_54 : decode cX11_rules 54 = .ok (.invokevirtual 141, 3) := by decide +kernel
theorem dX11_rules_57 : decode cX11_rules 57 = .ok (.aload_n 0, 1) := by decide +kernel
theorem dX11_rules_58 : decode cX11_rules 58 = .ok (.invokevirtual 158, 3) := by decide +kernel
theorem dX11_rules_61 : decode cX11_rules 61 = .ok (.aload_n 0, 1) := by decide +kernel
theorem dX11_rules_62 : decode cX11_rules 62 = .ok (.getfield 24, 3) := by decide +kernel
theorem dX11_rules_65 : decode cX11_rules 65 = .ok (.getfield 161, 3) := by decide +kernel
theorem dX11_rules_68 : decode cX11_rules 68 = .ok (.istore_n 2, 1) := by decide +kernel
theorem dX11_rules_69 : decode cX11_rules 69 = .ok (.aload_n 0, 1) := by decide +kernel
theorem dX11_rules_70 : decode cX11_rules 70 = .ok (.getfield 14, 3) := by decide +kernel
theorem dX11_rules_73 : decode cX11_rules 73 = .ok (.invokevirtual 144, 3) := by decide +kernel
theorem dX11_rules_76 : decode cX11_rules 76 = .ok (.iload_n 2, 1) := by decide +kernel
theorem dX11_rules_77 : decode cX11_rules 77 = .ok (.ireturn, 1) := by decide +kernel
def sX11_rules_76 (F : Nat) (h : Hp) (x2 : Int32) : Option (Int32 × Hp) := some (x2, h)
def sX11_rules_69 (F : Nat) (h : Hp) (x0 : Nat) (x2 : Int32) : Option (Int32 × Hp) := cl (hR h x0 0) fun r_1 => cl (sX9_clear h r_1) fun o_2 => sX11_rules_76 F o_2 x2
def sX11_rules_61 (F : Nat) (h : Hp) (x0 : Nat) : Option (Int32 × Hp) := cl (hR h x0 2) fun r_1 => nm (hI h r_1 3) fun v_2 => sX11_rules_69 F h x0 v_2
def sX11_rules_57 (F : Nat) (h : Hp) (x0 : Nat) : Option (Int32 × Hp) := cl (sX11_forgetAll F h x0) fun o_1 => sX11_rules_61 F o_1 x0
def sX11_rules_45 (F : Nat) (h : Hp) (x0 : Nat) (t0 : Int32) : Option (Int32 × Hp) := cl (hR h x0 5) fun r_1 => cl (hR h x0 2) fun r_2 => cl (sX10_lay F h r_1 r_2) fun o_3 => sX11_rules_57 F o_3 x0
def sX11_rules_24 (F : Nat) (h : Hp) (x0 : Nat) (x1 : Int32) (t0 : Int32) (t1 : Int32) : Option (Int32 × Hp) := nm (t1 - t0) fun v_1 => br (x1 = 0) (sX11_rules_69 F h x0 v_1) (cl (hR h x0 4) fun r_3 => cl (hR h x0 0) fun r_4 => cl (hR h x0 2) fun r_5 => cl (sX2_read F h r_3 r_4 r_5) fun o_6 => sX11_rules_45 F o_6.2 x0 o_6.1)
def sX11_rules_15 (F : Nat) (h : Hp) (x0 : Nat) (t0 : Int32) : Option (Int32 × Hp) := cl (hR h x0 4) fun r_1 => cl (sX2_faultPlace h r_1) fun o_2 => sX11_rules_24 F o_2.2 x0 t0 o_2.1 (-1 : Int32)
def sX11_rules (F : Nat) (h : Hp) (x0 : Nat) : Option (Int32 × Hp) := cl (hR h x0 4) fun r_1 => cl (hR h x0 0) fun r_2 => cl (hR h x0 3) fun r_3 => cl (sX2_read F h r_1 r_2 r_3) fun o_4 => sX11_rules_15 F o_4.2 x0 o_4.1
set_option maxRecDepth 20000 in
theorem moX11_rules_76 {o : Int32 × Hp} {F : Nat} {h : Hp} {x2 : Int32} (hE : sX11_rules_76 F h x2 = some o) : Le h o.2 := by
  cases hE
  exact Le.rf _
set_option maxRecDepth 20000 in
theorem moX11_rules_69 {o : Int32 × Hp} {F : Nat} {h : Hp} {x0 : Nat} {x2 : Int32} (hE : sX11_rules_69 F h x0 x2 = some o) : Le h o.2 := by
  obtain ⟨r_1, er_1, hE⟩ := cl_e hE
  obtain ⟨o_2, eo_2, hE⟩ := cl_e hE
  refine (moX9_clear eo_2).tr ?_
  exact moX11_rules_76 hE
set_option maxRecDepth 20000 in
theorem moX11_rules_61 {o : Int32 × Hp} {F : Nat} {h : Hp} {x0 : Nat} (hE : sX11_rules_61 F h x0 = some o) : Le h o.2 := by
  obtain ⟨r_1, er_1, hE⟩ := cl_e hE
  obtain ⟨v_2, ev_2, hE⟩ := nm_e2 hE
  exact moX11_rules_69 hE
set_option maxRecDepth 20000 in
theorem moX11_rules_57 {o : Int32 × Hp} {F : Nat} {h : Hp} {x0 : Nat} (hE : sX11_rules_57 F h x0 = some o) : Le h o.2 := by
  obtain ⟨o_1, eo_1, hE⟩ := cl_e hE
  refine (moX11_forgetAll eo_1).tr ?_
  exact moX11_rules_61 hE
set_option maxRecDepth 20000 in
theorem moX11_rules_45 {o : Int32 × Hp} {F : Nat} {h : Hp} {x0 : Nat} {t0 : Int32} (hE : sX11_rules_45 F h x0 t0 = some o) : Le h o.2 := by
  obtain ⟨r_1, er_1, hE⟩ := cl_e hE
  obtain ⟨r_2, er_2, hE⟩ := cl_e hE
  obtain ⟨o_3, eo_3, hE⟩ := cl_e hE
  refine (moX10_lay eo_3).tr ?_
  exact moX11_rules_57 hE
set_option maxRecDepth 20000 in
theorem moX11_rules_24 {o : Int32 × Hp} {F : Nat} {h : Hp} {x0 : Nat} {x1 : Int32} {t0 : Int32} {t1 : Int32} (hE : sX11_rules_24 F h x0 x1 t0 t1 = some o) : Le h o.2 := by
  obtain ⟨v_1, ev_1, hE⟩ := nm_e2 hE
  rcases br_e hE with ⟨_, hE⟩ | ⟨_, hE⟩
  · exact moX11_rules_69 hE
  · obtain ⟨r_3, er_3, hE⟩ := cl_e hE
    obtain ⟨r_4, er_4, hE⟩ := cl_e hE
    obtain ⟨r_5, er_5, hE⟩ := cl_e hE
    obtain ⟨o_6, eo_6, hE⟩ := cl_e hE
    refine (moX2_read eo_6).tr ?_
    exact moX11_rules_45 hE
set_option maxRecDepth 20000 in
theorem moX11_rules_15 {o : Int32 × Hp} {F : Nat} {h : Hp} {x0 : Nat} {t0 : Int32} (hE : sX11_rules_15 F h x0 t0 = some o) : Le h o.2 := by
  obtain ⟨r_1, er_1, hE⟩ := cl_e hE
  obtain ⟨o_2, eo_2, hE⟩ := cl_e hE
  refine (moX2_faultPlace eo_2).tr ?_
  exact moX11_rules_24 hE
set_option maxRecDepth 20000 in
theorem moX11_rules {o : Int32 × Hp} {F : Nat} {h : Hp} {x0 : Nat} (hE : sX11_rules F h x0 = some o) : Le h o.2 := by
  obtain ⟨r_1, er_1, hE⟩ := cl_e hE
  obtain ⟨r_2, er_2, hE⟩ := cl_e hE
  obtain ⟨r_3, er_3, hE⟩ := cl_e hE
  obtain ⟨o_4, eo_4, hE⟩ := cl_e hE
  refine (moX2_read eo_4).tr ?_
  exact moX11_rules_15 hE
set_option maxRecDepth 20000 in
theorem bX11_rules_76 {p : Program} {l : Launch} {e : Env} {s : State} {m : MethodId} {args : Array Value} {below : List Frame} {meth : Method} {c : Code} {X : Ec} {h0 : Hp} {o : Int32 × Hp} {F : Nat} (C : Cx X p s m args meth c RX11 cX11_rules 3 (some .int) "rules") {h : Hp} {x2 : Int32} {H : Heap} {locs : List Loc} (hkl : Kl h0 h) (hW : Wx X h H) (hZ : va_S (aA (eB X)) s.heap H locs) (ls : Array Slot) (hl : lv_has ls 3 [(2, .int x2)]) (hE : sX11_rules_76 F h x2 = some o) : W p l e (rmA 9 205 h0 o.2) s m args below meth c H locs (hS h - hS h0) (hL h - hL h0) (MQ below (QIA X h0 o.1 o.2) args s (hS o.2 - hS h0) (hL o.2 - hL h0) (aA (eB X))) (F0 m 76 ls []) := by
  refine lv_iload_n C.1 C.2.1 dX11_rules_76 rfl (lv_at hl 0 rfl) ?_
  exact x_iretA C rfl rfl hW hZ hkl hE dX11_rules_77
set_option maxRecDepth 20000 in
theorem bX11_rules_69 {p : Program} {l : Launch} {e : Env} {s : State} {m : MethodId} {args : Array Value} {below : List Frame} {meth : Method} {c : Code} {X : Ec} {h0 : Hp} {o : Int32 × Hp} {F : Nat} (C : Cx X p s m args meth c RX11 cX11_rules 3 (some .int) "rules") {h : Hp} {x0 : Nat} {x2 : Int32} {H : Heap} {locs : List Loc} (k_x0 : hK h x0 = 11) (hkl : Kl h0 h) (hW : Wx X h H) (hZ : va_S (aA (eB X)) s.heap H locs) (ls : Array Slot) (hl : lv_has ls 3 [(0, .ref x0), (2, .int x2)]) (hE : sX11_rules_69 F h x0 x2 = some o) : W p l e (rmA 9 205 h0 o.2) s m args below meth c H locs (hS h - hS h0) (hL h - hL h0) (MQ below (QIA X h0 o.1 o.2) args s (hS o.2 - hS h0) (hL o.2 - hL h0) (aA (eB X))) (F0 m 69 ls []) := by
  refine lv_aload_n C.1 C.2.1 dX11_rules_69 rfl (lv_at hl 0 rfl) ?_
  obtain ⟨r_1, er_1, hE⟩ := cl_e hE
  refine gf_X11_14 C hW k_x0 er_1 dX11_rules_70 (fun k_r_1 => ?_)
  obtain ⟨o_2, eo_2, hE⟩ := cl_e hE
  have m1 := moX9_clear eo_2
  have m2 := moX11_rules_76 hE
  refine x_kV (o := o_2) (z_runV (As := []) (rest := []) C (ct_X9_clear l X k_r_1 eo_2) cw_X11_144 hW hZ k_r_1 (by decide) rfl rfl rfl hl.1 (Nat.le_of_ble_eq_true rfl) rfl dX11_rules_73 ⟨Nat.le_of_ble_eq_true rfl, Nat.le_of_ble_eq_true rfl⟩ (rm_ok0 hkl m1 m2)) hZ (fun _ _ hW km hZ => ?_)
  replace hkl := hkl.tr km.l
  refine x_wc km ?_
  replace k_x0 := km.at k_x0 (by decide)
  exact bX11_rules_76 C hkl hW hZ _ (lv_sub hl [1] rfl) hE
set_option maxRecDepth 20000 in
theorem bX11_rules_61 {p : Program} {l : Launch} {e : Env} {s : State} {m : MethodId} {args : Array Value} {below : List Frame} {meth : Method} {c : Code} {X : Ec} {h0 : Hp} {o : Int32 × Hp} {F : Nat} (C : Cx X p s m args meth c RX11 cX11_rules 3 (some .int) "rules") {h : Hp} {x0 : Nat} {H : Heap} {locs : List Loc} (k_x0 : hK h x0 = 11) (hkl : Kl h0 h) (hW : Wx X h H) (hZ : va_S (aA (eB X)) s.heap H locs) (ls : Array Slot) (hl : lv_has ls 3 [(0, .ref x0)]) (hE : sX11_rules_61 F h x0 = some o) : W p l e (rmA 9 205 h0 o.2) s m args below meth c H locs (hS h - hS h0) (hL h - hL h0) (MQ below (QIA X h0 o.1 o.2) args s (hS o.2 - hS h0) (hL o.2 - hL h0) (aA (eB X))) (F0 m 61 ls []) := by
  refine lv_aload_n C.1 C.2.1 dX11_rules_61 rfl (lv_at hl 0 rfl) ?_
  obtain ⟨r_1, er_1, hE⟩ := cl_e hE
  refine gf_X11_24 C hW k_x0 er_1 dX11_rules_62 (fun k_r_1 => ?_)
  refine gf_X11_161 C hW k_r_1 dX11_rules_65 ?_
  obtain ⟨v_2, ev_2, hE⟩ := nm_e2 hE
  refine x_nmI ev_2 ?_
  refine lv_istore_n (lv' := [(2, .int v_2), (0, .ref x0)]) C.1 C.2.1 dX11_rules_68 rfl hl (by decide) rfl (fun ls hl => ?_)
  exact bX11_rules_69 C k_x0 hkl hW hZ _ (lv_sub hl [1, 0] rfl) hE
set_option maxRecDepth 20000 in
theorem bX11_rules_57 {p : Program} {l : Launch} {e : Env} {s : State} {m : MethodId} {args : Array Value} {below : List Frame} {meth : Method} {c : Code} {X : Ec} {h0 : Hp} {o : Int32 × Hp} {F : Nat} (C : Cx X p s m args meth c RX11 cX11_rules 3 (some .int) "rules") {h : Hp} {x0 : Nat} {H : Heap} {locs : List Loc} (k_x0 : hK h x0 = 11) (hkl : Kl h0 h) (hW : Wx X h H) (hZ : va_S (aA (eB X)) s.heap H locs) (ls : Array Slot) (hl : lv_has ls 3 [(0, .ref x0)]) (hE : sX11_rules_57 F h x0 = some o) : W p l e (rmA 9 205 h0 o.2) s m args below meth c H locs (hS h - hS h0) (hL h - hL h0) (MQ below (QIA X h0 o.1 o.2) args s (hS o.2 - hS h0) (hL o.2 - hL h0) (aA (eB X))) (F0 m 57 ls []) := by
  refine lv_aload_n C.1 C.2.1 dX11_rules_57 rfl (lv_at hl 0 rfl) ?_
  obtain ⟨o_1, eo_1, hE⟩ := cl_e hE
  have m1 := moX11_forgetAll eo_1
  have m2 := moX11_rules_61 hE
  refine x_kV (o := o_1) (z_runV (As := []) (rest := []) C (ct_X11_forgetAll l X F k_x0 eo_1) cw_X11_158 hW hZ k_x0 (by decide) rfl rfl rfl hl.1 (Nat.le_of_ble_eq_true rfl) rfl dX11_rules_58 ⟨Nat.le_of_ble_eq_true rfl, Nat.le_of_ble_eq_true rfl⟩ (rm_ok0 hkl m1 m2)) hZ (fun _ _ hW km hZ => ?_)
  replace hkl := hkl.tr km.l
  refine x_wc km ?_
  replace k_x0 := km.at k_x0 (by decide)
  exact bX11_rules_61 C k_x0 hkl hW hZ _ (lv_sub hl [0] rfl) hE
set_option maxRecDepth 20000 in
theorem bX11_rules_45 {p : Program} {l : Launch} {e : Env} {s : State} {m : MethodId} {args : Array Value} {below : List Frame} {meth : Method} {c : Code} {X : Ec} {h0 : Hp} {o : Int32 × Hp} {F : Nat} (C : Cx X p s m args meth c RX11 cX11_rules 3 (some .int) "rules") {h : Hp} {x0 : Nat} {t0 : Int32} {H : Heap} {locs : List Loc} (k_x0 : hK h x0 = 11) (hkl : Kl h0 h) (hW : Wx X h H) (hZ : va_S (aA (eB X)) s.heap H locs) (ls : Array Slot) (hl : lv_has ls 3 [(0, .ref x0)]) (hE : sX11_rules_45 F h x0 t0 = some o) : W p l e (rmA 9 205 h0 o.2) s m args below meth c H locs (hS h - hS h0) (hL h - hL h0) (MQ below (QIA X h0 o.1 o.2) args s (hS o.2 - hS h0) (hL o.2 - hL h0) (aA (eB X))) (F0 m 45 ls [.int t0]) := by
  refine lv_pop C.1 C.2.1 dX11_rules_45 rfl ?_
  refine lv_aload_n C.1 C.2.1 dX11_rules_46 rfl (lv_at hl 0 rfl) ?_
  obtain ⟨r_1, er_1, hE⟩ := cl_e hE
  refine gf_X11_41 C hW k_x0 er_1 dX11_rules_47 (fun k_r_1 => ?_)
  refine lv_aload_n C.1 C.2.1 dX11_rules_50 rfl (lv_at hl 0 rfl) ?_
  obtain ⟨r_2, er_2, hE⟩ := cl_e hE
  refine gf_X11_24 C hW k_x0 er_2 dX11_rules_51 (fun k_r_2 => ?_)
  obtain ⟨o_3, eo_3, hE⟩ := cl_e hE
  have m1 := moX10_lay eo_3
  have m2 := moX11_rules_57 hE
  refine x_kVA (o := o_3) hkl (z_runV (As := [.ref r_2]) (rest := []) C (ct_X10_lay l X F k_r_1 k_r_2 eo_3) cw_X11_141 hW hZ k_r_1 (by decide) rfl rfl rfl hl.1 (Nat.le_of_ble_eq_true rfl) rfl dX11_rules_54 ⟨Nat.le_of_ble_eq_true rfl, Nat.le_of_ble_eq_true rfl⟩ (rm_ok hkl m1 m2)) hZ (fun _ _ hW km hZ => ?_)
  replace hkl := hkl.tr km
  replace k_x0 := km.at k_x0 (by decide)
  exact bX11_rules_57 C k_x0 hkl hW hZ _ (lv_sub hl [0] rfl) hE
set_option maxRecDepth 20000 in
theorem bX11_rules_24 {p : Program} {l : Launch} {e : Env} {s : State} {m : MethodId} {args : Array Value} {below : List Frame} {meth : Method} {c : Code} {X : Ec} {h0 : Hp} {o : Int32 × Hp} {F : Nat} (C : Cx X p s m args meth c RX11 cX11_rules 3 (some .int) "rules") {h : Hp} {x0 : Nat} {x1 : Int32} {t0 : Int32} {t1 : Int32} {H : Heap} {locs : List Loc} (k_x0 : hK h x0 = 11) (hkl : Kl h0 h) (hW : Wx X h H) (hZ : va_S (aA (eB X)) s.heap H locs) (ls : Array Slot) (hl : lv_has ls 3 [(0, .ref x0), (1, .int x1)]) (hE : sX11_rules_24 F h x0 x1 t0 t1 = some o) : W p l e (rmA 9 205 h0 o.2) s m args below meth c H locs (hS h - hS h0) (hL h - hL h0) (MQ below (QIA X h0 o.1 o.2) args s (hS o.2 - hS h0) (hL o.2 - hL h0) (aA (eB X))) (F0 m 24 ls [.int t0, .int t1]) := by
  refine lv_isub C.1 C.2.1 dX11_rules_24 ?_
  obtain ⟨v_1, ev_1, hE⟩ := nm_e2 hE
  refine x_nmI ev_1 ?_
  refine lv_istore_n (lv' := [(2, .int v_1), (0, .ref x0), (1, .int x1)]) C.1 C.2.1 dX11_rules_25 rfl hl (by decide) rfl (fun ls hl => ?_)
  refine lv_iload_n C.1 C.2.1 dX11_rules_26 rfl (lv_at hl 2 rfl) ?_
  refine lv_if_eq (tgt := 69) C.1 C.2.1 dX11_rules_27 (by decide) (fun c_2 => ?_) (fun c_2 => ?_)
  · have hE := br_p hE c_2
    exact bX11_rules_69 C k_x0 hkl hW hZ _ (lv_sub hl [1, 0] rfl) hE
  · have hE := br_n hE c_2
    refine lv_aload_n C.1 C.2.1 dX11_rules_30 rfl (lv_at hl 1 rfl) ?_
    obtain ⟨r_3, er_3, hE⟩ := cl_e hE
    refine gf_X11_34 C hW k_x0 er_3 dX11_rules_31 (fun k_r_3 => ?_)
    refine lv_aload_n C.1 C.2.1 dX11_rules_34 rfl (lv_at hl 1 rfl) ?_
    obtain ⟨r_4, er_4, hE⟩ := cl_e hE
    refine gf_X11_14 C hW k_x0 er_4 dX11_rules_35 (fun k_r_4 => ?_)
    refine lv_aload_n C.1 C.2.1 dX11_rules_38 rfl (lv_at hl 1 rfl) ?_
    obtain ⟨r_5, er_5, hE⟩ := cl_e hE
    refine gf_X11_24 C hW k_x0 er_5 dX11_rules_39 (fun k_r_5 => ?_)
    obtain ⟨o_6, eo_6, hE⟩ := cl_e hE
    have m1 := moX2_read eo_6
    have m2 := moX11_rules_45 hE
    refine x_kI (o := o_6) (z_runV (As := [.ref r_4, .ref r_5]) (rest := []) C (ct_X2_read l X F k_r_3 k_r_4 k_r_5 eo_6) cw_X11_137 hW hZ k_r_3 (by decide) rfl rfl rfl hl.1 (Nat.le_of_ble_eq_true rfl) rfl dX11_rules_42 ⟨Nat.le_of_ble_eq_true rfl, Nat.le_of_ble_eq_true rfl⟩ (rm_ok0 hkl m1 m2)) hZ (fun _ _ hW km hZ => ?_)
    replace hkl := hkl.tr km.l
    refine x_wc km ?_
    replace k_x0 := km.at k_x0 (by decide)
    exact bX11_rules_45 C k_x0 hkl hW hZ _ (lv_sub hl [1] rfl) hE
set_option maxRecDepth 20000 in
theorem bX11_rules_15 {p : Program} {l : Launch} {e : Env} {s : State} {m : MethodId} {args : Array Value} {below : List Frame} {meth : Method} {c : Code} {X : Ec} {h0 : Hp} {o : Int32 × Hp} {F : Nat} (C : Cx X p s m args meth c RX11 cX11_rules 3 (some .int) "rules") {h : Hp} {x0 : Nat} {t0 : Int32} {H : Heap} {locs : List Loc} (k_x0 : hK h x0 = 11) (hkl : Kl h0 h) (hW : Wx X h H) (hZ : va_S (aA (eB X)) s.heap H locs) (ls : Array Slot) (hl : lv_has ls 3 [(0, .ref x0)]) (hE : sX11_rules_15 F h x0 t0 = some o) : W p l e (rmA 9 205 h0 o.2) s m args below meth c H locs (hS h - hS h0) (hL h - hL h0) (MQ below (QIA X h0 o.1 o.2) args s (hS o.2 - hS h0) (hL o.2 - hL h0) (aA (eB X))) (F0 m 15 ls [.int t0]) := by
  refine lv_istore_n (lv' := [(1, .int t0), (0, .ref x0)]) C.1 C.2.1 dX11_rules_15 rfl hl (by decide) rfl (fun ls hl => ?_)
  refine lv_iconst (v := (-1 : Int32)) C.1 C.2.1 dX11_rules_16 (by decide) ?_
  refine lv_aload_n C.1 C.2.1 dX11_rules_17 rfl (lv_at hl 1 rfl) ?_
  obtain ⟨r_1, er_1, hE⟩ := cl_e hE
  refine gf_X11_34 C hW k_x0 er_1 dX11_rules_18 (fun k_r_1 => ?_)
  obtain ⟨o_2, eo_2, hE⟩ := cl_e hE
  have m1 := moX2_faultPlace eo_2
  have m2 := moX11_rules_24 hE
  refine x_kI (o := o_2) (z_runV (As := []) (rest := [.int (-1 : Int32)]) C (ct_X2_faultPlace l X k_r_1 eo_2) cw_X11_154 hW hZ k_r_1 (by decide) rfl rfl rfl hl.1 (Nat.le_of_ble_eq_true rfl) rfl dX11_rules_21 ⟨Nat.le_of_ble_eq_true rfl, Nat.le_of_ble_eq_true rfl⟩ (rm_ok0 hkl m1 m2)) hZ (fun _ _ hW km hZ => ?_)
  replace hkl := hkl.tr km.l
  refine x_wc km ?_
  replace k_x0 := km.at k_x0 (by decide)
  exact bX11_rules_24 C k_x0 hkl hW hZ _ (lv_sub hl [1, 0] rfl) hE
set_option maxRecDepth 20000 in
theorem ct_X11_rules (l : Launch) (X : Ec) (F : Nat) {h : Hp} {x0 : Nat} {o : Int32 × Hp} (k_x0 : hK h x0 = 11) (hE : sX11_rules F h x0 = some o) : MetIA l yX11_rules cX11_rules 3 (some .int) 9 205 X [.ref x0] h o := by
  refine x_metA (oh := o.2) (by decide) (Nat.le_of_ble_eq_true rfl) ?_
  intro p e s m below meth c ls C hl hW hZ
  have hl : lv_has ls 3 [(0, .ref x0)] := hl
  have hkl : Kl h h := Kl.rf h
  refine lv_aload_n C.1 C.2.1 dX11_rules_0 rfl (lv_at hl 0 rfl) ?_
  obtain ⟨r_1, er_1, hE⟩ := cl_e hE
  refine gf_X11_34 C hW k_x0 er_1 dX11_rules_1 (fun k_r_1 => ?_)
  refine lv_aload_n C.1 C.2.1 dX11_rules_4 rfl (lv_at hl 0 rfl) ?_
  obtain ⟨r_2, er_2, hE⟩ := cl_e hE
  refine gf_X11_14 C hW k_x0 er_2 dX11_rules_5 (fun k_r_2 => ?_)
  refine lv_aload_n C.1 C.2.1 dX11_rules_8 rfl (lv_at hl 0 rfl) ?_
  obtain ⟨r_3, er_3, hE⟩ := cl_e hE
  refine gf_X11_28 C hW k_x0 er_3 dX11_rules_9 (fun k_r_3 => ?_)
  obtain ⟨o_4, eo_4, hE⟩ := cl_e hE
  have m1 := moX2_read eo_4
  have m2 := moX11_rules_15 hE
  refine x_kI (o := o_4) (z_runV (As := [.ref r_2, .ref r_3]) (rest := []) C (ct_X2_read l X F k_r_1 k_r_2 k_r_3 eo_4) cw_X11_137 hW hZ k_r_1 (by decide) rfl rfl rfl hl.1 (Nat.le_of_ble_eq_true rfl) rfl dX11_rules_12 ⟨Nat.le_of_ble_eq_true rfl, Nat.le_of_ble_eq_true rfl⟩ (rm_ok0 hkl m1 m2)) hZ (fun _ _ hW km hZ => ?_)
  replace hkl := hkl.tr km.l
  refine x_wc km ?_
  replace k_x0 := km.at k_x0 (by decide)
  exact bX11_rules_15 C k_x0 hkl hW hZ _ (lv_sub hl [0] rfl) hE
theorem dX11_countPlaces_0 : decode cX11_countPlaces 0 = .ok (.iconst 0, 1) := by decide +kernel
theorem dX11_countPlaces_1 : decode cX11_countPlaces 1 = .ok (.istore_n 1, 1) := by decide +kernel
theorem dX11_countPlaces_2 : decode cX11_countPlaces 2 = .ok (.iconst 0, 1) := by decide +kernel
theorem dX11_countPlaces_3 : decode cX11_countPlaces 3 = .ok (.istore_n 2, 1) := by decide +kernel
theorem dX11_countPlaces_4 : decode cX11_countPlaces 4 = .ok (.iload_n 2, 1) := by decide +kernel
theorem dX11_countPlaces_5 : decode cX11_countPlaces 5 = .ok (.bipush 60, 2) := by decide +kernel
theorem dX11_countPlaces_7 : decode cX11_countPlaces 7 = .ok (.if_icmp .ge 26, 3) := by decide +kernel
theorem dX11_countPlaces_10 : decode cX11_countPlaces 10 = .ok (.iload_n 1, 1) := by decide +kernel
theorem dX11_countPlaces_11 : decode cX11_countPlaces 11 = .ok (.aload_n 0, 1) := by decide +kernel
theorem dX11_countPlaces_12 : decode cX11_countPlaces 12 = .ok (.getfield 107, 3) := by decide +kernel
theorem dX11_countPlaces_15 : decode cX11_countPlaces 15 = .ok (.iload_n 2, 1) := by decide +kernel
theorem dX11_countPlaces_16 : decode cX11_countPlaces 16 = .ok (.baload, 1) := by decide +kernel
theorem dX11_countPlaces_17 : decode cX11_countPlaces 17 = .ok (.ifCond .eq 7, 3) := by decide +kernel
theorem dX11_countPlaces_20 : decode cX11_countPlaces 20 = .ok (.iconst 1, 1) := by decide +kernel
theorem dX11_countPlaces_21 : decode cX11_countPlaces 21 = .ok (.goto 4, 3) := by decide +kernel
theorem dX11_countPlaces_24 : decode cX11_countPlaces 24 = .ok (.iconst 0, 1) := by decide +kernel
theorem dX11_countPlaces_25 : decode cX11_countPlaces 25 = .ok (.iadd, 1) := by decide +kernel
theorem dX11_countPlaces_26 : decode cX11_countPlaces 26 = .ok (.istore_n 1, 1) := by decide +kernel
theorem dX11_countPlaces_27 : decode cX11_countPlaces 27 = .ok (.iinc 2 1, 3) := by decide +kernel
theorem dX11_countPlaces_30 : decode cX11_countPlaces 30 = .ok (.goto (-26), 3) := by decide +kernel
theorem dX11_countPlaces_33 : decode cX11_countPlaces 33 = .ok (.iload_n 1, 1) := by decide +kernel
theorem dX11_countPlaces_34 : decode cX11_countPlaces 34 = .ok (.ireturn, 1) := by decide +kernel
def sX11_countPlaces_25 (F : Nat) (k_4 : Hp → Nat → Int32 → Int32 → Option (Int32 × Hp)) (h : Hp) (x0 : Nat) (x2 : Int32) (t0 : Int32) (t1 : Int32) : Option (Int32 × Hp) := nm (t1 + t0) fun v_1 => nm (x2 + (1 : Int32)) fun v_2 => k_4 h x0 v_1 v_2
def sX11_countPlaces_4 (F : Nat) : Nat → Hp → Nat → Int32 → Int32 → Option (Int32 × Hp)
  | 0, _, _, _, _ => none
  | f + 1, h, x0, x1, x2 => br ((60 : Int32) ≤ x2) (some (x1, h)) (cl (hR h x0 14) fun r_2 => gd (inB x2 (hN h r_2)) <| br ((hI h r_2 x2.toNatClampNeg) = 0) (sX11_countPlaces_25 F (sX11_countPlaces_4 F f) h x0 x2 (0 : Int32) x1) (sX11_countPlaces_25 F (sX11_countPlaces_4 F f) h x0 x2 (1 : Int32) x1))
def sX11_countPlaces (F : Nat) (h : Hp) (x0 : Nat) : Option (Int32 × Hp) := sX11_countPlaces_4 F F h x0 (0 : Int32) (0 : Int32)
set_option maxRecDepth 20000 in
theorem bX11_countPlaces_25 {p : Program} {l : Launch} {e : Env} {s : State} {m : MethodId} {args : Array Value} {below : List Frame} {meth : Method} {c : Code} {X : Ec} {h0 : Hp} {o : Int32 × Hp} {k_4 : Hp → Nat → Int32 → Int32 → Option (Int32 × Hp)} {F : Nat} (C : Cx X p s m args meth c RX11 cX11_countPlaces 3 (some .int) "countPlaces") (hk_4 : ∀ (h : Hp) (x0 : Nat) (x1 : Int32) (x2 : Int32) (H : Heap) (locs : List Loc), hK h x0 = 11 → Km h0 h → Wx X h H → va_S (aA (eB X)) s.heap H locs → ∀ (ls : Array Slot), lv_has ls 3 [(0, .ref x0), (1, .int x1), (2, .int x2)] → k_4 h x0 x1 x2 = some o → W p l e (rm 0 0) s m args below meth c H locs 0 0 (MQ below (QI X h0 o.1 o.2) args s 0 0 (aA (eB X))) (F0 m 4 ls [])) {h : Hp} {x0 : Nat} {x2 : Int32} {t0 : Int32} {t1 : Int32} {H : Heap} {locs : List Loc} (k_x0 : hK h x0 = 11) (hkm : Km h0 h) (hW : Wx X h H) (hZ : va_S (aA (eB X)) s.heap H locs) (ls : Array Slot) (hl : lv_has ls 3 [(0, .ref x0), (2, .int x2)]) (hE : sX11_countPlaces_25 F k_4 h x0 x2 t0 t1 = some o) : W p l e (rm 0 0) s m args below meth c H locs 0 0 (MQ below (QI X h0 o.1 o.2) args s 0 0 (aA (eB X))) (F0 m 25 ls [.int t0, .int t1]) := by
  refine lv_iadd C.1 C.2.1 dX11_countPlaces_25 ?_
  obtain ⟨v_1, ev_1, hE⟩ := nm_e2 hE
  refine x_nmI ev_1 ?_
  refine lv_istore_n (lv' := [(1, .int v_1), (0, .ref x0), (2, .int x2)]) C.1 C.2.1 dX11_countPlaces_26 rfl hl (by decide) rfl (fun ls hl => ?_)
  obtain ⟨v_2, ev_2, hE⟩ := nm_e2 hE
  refine lv_iinc (v := v_2) (lv' := [(2, .int v_2), (1, .int v_1), (0, .ref x0)]) C.1 C.2.1 dX11_countPlaces_27 hl (k := 2) rfl (by rw [ev_2]; rfl) (by decide) rfl (fun ls hl => ?_)
  refine lv_goto (tgt := 4) C.1 C.2.1 dX11_countPlaces_30 (by decide) ?_
  exact hk_4 _ _ _ _ _ _ k_x0 hkm hW hZ _ (lv_sub hl [2, 1, 0] rfl) hE
set_option maxRecDepth 20000 in
theorem bX11_countPlaces_4 {p : Program} {l : Launch} {e : Env} {s : State} {m : MethodId} {args : Array Value} {below : List Frame} {meth : Method} {c : Code} {X : Ec} {h0 : Hp} {o : Int32 × Hp} {F : Nat} (C : Cx X p s m args meth c RX11 cX11_countPlaces 3 (some .int) "countPlaces") : ∀ (f : Nat) {h : Hp} {x0 : Nat} {x1 : Int32} {x2 : Int32} {H : Heap} {locs : List Loc} (k_x0 : hK h x0 = 11), Km h0 h → Wx X h H → va_S (aA (eB X)) s.heap H locs → ∀ (ls : Array Slot), lv_has ls 3 [(0, .ref x0), (1, .int x1), (2, .int x2)] → sX11_countPlaces_4 F f h x0 x1 x2 = some o → W p l e (rm 0 0) s m args below meth c H locs 0 0 (MQ below (QI X h0 o.1 o.2) args s 0 0 (aA (eB X))) (F0 m 4 ls []) := by
  intro f
  induction f with
  | zero =>
    intro h x0 x1 x2 H locs k_x0 hkm hW hZ ls hl hE
    rw [sX11_countPlaces_4] at hE
    cases hE
  | succ f ih =>
    intro h x0 x1 x2 H locs k_x0 hkm hW hZ ls hl hE
    rw [sX11_countPlaces_4] at hE
    have hk_4 : ∀ (h : Hp) (x0 : Nat) (x1 : Int32) (x2 : Int32) (H : Heap) (locs : List Loc), hK h x0 = 11 → Km h0 h → Wx X h H → va_S (aA (eB X)) s.heap H locs → ∀ (ls : Array Slot), lv_has ls 3 [(0, .ref x0), (1, .int x1), (2, .int x2)] → sX11_countPlaces_4 F f h x0 x1 x2 = some o → W p l e (rm 0 0) s m args below meth c H locs 0 0 (MQ below (QI X h0 o.1 o.2) args s 0 0 (aA (eB X))) (F0 m 4 ls []) := fun h x0 x1 x2 H locs k_x0 a b c ls hl hE => ih k_x0 a b c ls hl hE
    refine lv_iload_n C.1 C.2.1 dX11_countPlaces_4 rfl (lv_at hl 2 rfl) ?_
    refine lv_bipush (v := (60 : Int32)) C.1 C.2.1 dX11_countPlaces_5 (by decide) ?_
    refine lv_icmp_ge (tgt := 33) C.1 C.2.1 dX11_countPlaces_7 (by decide) (fun c_1 => ?_) (fun c_1 => ?_)
    · have hE := br_p hE c_1
      refine lv_iload_n C.1 C.2.1 dX11_countPlaces_33 rfl (lv_at hl 1 rfl) ?_
      exact x_iret C rfl rfl hW hZ hkm hE dX11_countPlaces_34
    · have hE := br_n hE c_1
      refine lv_iload_n C.1 C.2.1 dX11_countPlaces_10 rfl (lv_at hl 1 rfl) ?_
      refine lv_aload_n C.1 C.2.1 dX11_countPlaces_11 rfl (lv_at hl 0 rfl) ?_
      obtain ⟨r_2, er_2, hE⟩ := cl_e hE
      refine gf_X11_107 C hW k_x0 er_2 dX11_countPlaces_12 (fun k_r_2 => ?_)
      refine lv_iload_n C.1 C.2.1 dX11_countPlaces_15 rfl (lv_at hl 2 rfl) ?_
      obtain ⟨g_3, hE⟩ := gd_e hE
      refine y_zald C hW k_r_2 g_3 dX11_countPlaces_16 ?_
      refine lv_if_eq (tgt := 24) C.1 C.2.1 dX11_countPlaces_17 (by decide) (fun c_4 => ?_) (fun c_4 => ?_)
      · have hE := br_p hE c_4
        refine lv_iconst (v := (0 : Int32)) C.1 C.2.1 dX11_countPlaces_24 (by decide) ?_
        exact bX11_countPlaces_25 C hk_4 k_x0 hkm hW hZ _ (lv_sub hl [0, 2] rfl) hE
      · have hE := br_n hE c_4
        refine lv_iconst (v := (1 : Int32)) C.1 C.2.1 dX11_countPlaces_20 (by decide) ?_
        refine lv_goto (tgt := 25) C.1 C.2.1 dX11_countPlaces_21 (by decide) ?_
        exact bX11_countPlaces_25 C hk_4 k_x0 hkm hW hZ _ (lv_sub hl [0, 2] rfl) hE
set_option maxRecDepth 20000 in
theorem ct_X11_countPlaces (l : Launch) (X : Ec) (F : Nat) {h : Hp} {x0 : Nat} {o : Int32 × Hp} (k_x0 : hK h x0 = 11) (hE : sX11_countPlaces F h x0 = some o) : MetI l yX11_countPlaces cX11_countPlaces 3 (some .int) 0 0 X [.ref x0] h o := by
  refine x_met (by decide) (Nat.le_of_ble_eq_true rfl) ?_
  intro p e s m below meth c ls C hl hW hZ
  have hl : lv_has ls 3 [(0, .ref x0)] := hl
  have hkm : Km h h := Km.rf h
  refine lv_iconst (v := (0 : Int32)) C.1 C.2.1 dX11_countPlaces_0 (by decide) ?_
  refine lv_istore_n (lv' := [(1, .int (0 : Int32)), (0, .ref x0)]) C.1 C.2.1 dX11_countPlaces_1 rfl hl (by decide) rfl (fun ls hl => ?_)
  refine lv_iconst (v := (0 : Int32)) C.1 C.2.1 dX11_countPlaces_2 (by decide) ?_
  refine lv_istore_n (lv' := [(2, .int (0 : Int32)), (1, .int (0 : Int32)), (0, .ref x0)]) C.1 C.2.1 dX11_countPlaces_3 rfl hl (by decide) rfl (fun ls hl => ?_)
  exact bX11_countPlaces_4 C F k_x0 hkm hW hZ _ (lv_sub hl [2, 1, 0] rfl) hE
theorem ms_29 : Cond.selects RX11 yX11_countPlaces yX11_countPlaces ∈ W0 := w0_in (List.mem_append_left _ (List.mem_of_getElem? (i := 29) (by decide +kernel))) rfl
theorem m_63 : Cond.fieldLink RX11 164 (TX1 0).1 (TX1 0).2.1 (TX1 0).2.2.1 ∈ W0 := w0_in (List.mem_append_right _ (List.mem_of_getElem? (i := 63) (by decide +kernel))) rfl
theorem m_69 : Cond.fieldLink RX11 167 (TX1 1).1 (TX1 1).2.1 (TX1 1).2.2.1 ∈ W0 := w0_in (List.mem_append_right _ (List.mem_of_getElem? (i := 69) (by decide +kernel))) rfl
theorem m_90 : Cond.fieldLink RX11 170 (TX1 4).1 (TX1 4).2.1 (TX1 4).2.2.1 ∈ W0 := w0_in (List.mem_append_right _ (List.mem_of_getElem? (i := 90) (by decide +kernel))) rfl
theorem m_95 : Cond.fieldLink RX11 173 (TX1 5).1 (TX1 5).2.1 (TX1 5).2.2.1 ∈ W0 := w0_in (List.mem_append_right _ (List.mem_of_getElem? (i := 95) (by decide +kernel))) rfl
theorem m_940 : Cond.methodLink RX11 176 yX11_countPlaces ∈ W0 := w0_in (List.mem_append_right _ (List.mem_of_getElem? (i := 940) (by decide +kernel))) rfl
theorem m_942 : Cond.instanceMethod yX11_countPlaces ∈ W0 := w0_in (List.mem_append_right _ (List.mem_of_getElem? (i := 942) (by decide +kernel))) rfl
theorem m_943 : Cond.code yX11_countPlaces cX11_countPlaces 3 (some .int) ∈ W0 := w0_in (List.mem_append_right _ (List.mem_of_getElem? (i := 943) (by decide +kernel))) rfl
section
variable {p : Program} {l : Launch} {e : Env} {R : Room} {s : State} {m : MethodId} {args : Array Value} {below : List Frame} {meth : Method} {c : Code} {H : Heap} {locs : List Loc} {cells slots : Nat} {Q : State → Prop}
variable {cc : ByteArray} {pc : Nat} {ls : Array Slot} {rest : List Value} {X : Ec} {h h1 : Hp} {nL : Nat} {rt : Option FieldType} {mn : String}
theorem gf_X11_164 {a : Nat} (C : Cx X p s m args meth c RX11 cc nL rt mn) (hW : Wx X h H) (ha : hK h a = 1) (hdg : decode cc pc = .ok (.getfield 164, 3)) (kk : W p l e R s m args below meth c H locs cells slots Q (F0 m (pc + 3) ls (.int (hI h a 0) :: rest))) : W p l e R s m args below meth c H locs cells slots Q (F0 m pc ls (.ref a :: rest)) :=
  y_geti C hW ha i_X1 (by decide) rfl (by decide) m_63 rfl hdg kk
theorem gf_X11_167 {a : Nat} (C : Cx X p s m args meth c RX11 cc nL rt mn) (hW : Wx X h H) (ha : hK h a = 1) (hdg : decode cc pc = .ok (.getfield 167, 3)) (kk : W p l e R s m args below meth c H locs cells slots Q (F0 m (pc + 3) ls (.int (hI h a 1) :: rest))) : W p l e R s m args below meth c H locs cells slots Q (F0 m pc ls (.ref a :: rest)) :=
  y_geti C hW ha i_X1 (by decide) rfl (by decide) m_69 rfl hdg kk
theorem gf_X11_170 {a : Nat} (C : Cx X p s m args meth c RX11 cc nL rt mn) (hW : Wx X h H) (ha : hK h a = 1) (hdg : decode cc pc = .ok (.getfield 170, 3)) (kk : W p l e R s m args below meth c H locs cells slots Q (F0 m (pc + 3) ls (.int (hI h a 4) :: rest))) : W p l e R s m args below meth c H locs cells slots Q (F0 m pc ls (.ref a :: rest)) :=
  y_geti C hW ha i_X1 (by decide) rfl (by decide) m_90 rfl hdg kk
theorem gf_X11_173 {a : Nat} (C : Cx X p s m args meth c RX11 cc nL rt mn) (hW : Wx X h H) (ha : hK h a = 1) (hdg : decode cc pc = .ok (.getfield 173, 3)) (kk : W p l e R s m args below meth c H locs cells slots Q (F0 m (pc + 3) ls (.int (hI h a 5) :: rest))) : W p l e R s m args below meth c H locs cells slots Q (F0 m pc ls (.ref a :: rest)) :=
  y_geti C hW ha i_X1 (by decide) rfl (by decide) m_95 rfl hdg kk
theorem gf_X11_18 {a r : Nat} (C : Cx X p s m args meth c RX11 cc nL rt mn) (hW : Wx X h H) (ha : hK h a = 11) (hr : hR h a 1 = some r) (hdg : decode cc pc = .ok (.getfield 18, 3)) (kk : hK h r = 9 → W p l e R s m args below meth c H locs cells slots Q (F0 m (pc + 3) ls (.ref r :: rest))) : W p l e R s m args below meth c H locs cells slots Q (F0 m pc ls (.ref a :: rest)) :=
  y_getr C hW ha i_X11 (by decide) rfl (by decide) m_853 rfl rfl hr hdg kk
end
theorem cw_X11_176 : cwd RX11 176 yX11_countPlaces cX11_countPlaces 3 (some .int) false 0 := ⟨m_943, m_940, m_1, ⟨m_942, ms_29⟩, by decide, by decide, by decide +kernel⟩
theorem dX11_told_0 : decode cX11_told 0 = .ok (.iload_n 1, 1) := by decide +kernel
theorem dX11_told_1 : decode cX11_told 1 = .ok (.tableswitch 108 0 7 #[47, 55, 63, 71, 79, 87, 92, 100], 47) := by decide +kernel
theorem dX11_told_48 : decode cX11_told 48 = .ok (.aload_n 0, 1) := by decide +kernel
theorem dX11_told_49 : decode cX11_told 49 = .ok (.getfield 24, 3) := by decide +kernel
theorem dX11_told_52 : decode cX11_told 52 = .ok (.getfield 164, 3) := by decide +kernel
theorem dX11_told_55 : decode cX11_told 55 = .ok (.ireturn, 1) := by decide +kernel
theorem dX11_told_56 : decode cX11_told 56 = .ok (.aload_n 0, 1) := by decide +kernel
theorem dX11_told_57 : decode cX11_told 57 = .ok (.getfield 24, 3) := by decide +kernel
theorem dX11_told_60 : decode cX11_told 60 = .ok (.getfield 167, 3) := by decide +kernel
theorem dX11_told_63 : decode cX11_told 63 = .ok (.ireturn, 1) := by decide +kernel
theorem dX11_told_64 : decode cX11_told 64 = .ok (.aload_n 0, 1) := by decide +kernel
theorem dX11_told_65 : decode cX11_told 65 = .ok (.getfield 24, 3) := by decide +kernel
theorem dX11_told_68 : decode cX11_told 68 = .ok (.getfield 161, 3) := by decide +kernel
theorem dX11_told_71 : decode cX11_told 71 = .ok (.ireturn, 1) := by decide +kernel
theorem dX11_told_72 : decode cX11_told 72 = .ok (.aload_n 0, 1) := by decide +kernel
theorem dX11_told_73 : decode cX11_told 73 = .ok (.getfield 24, 3) := by decide +kernel
theorem dX11_told_76 : decode cX11_told 76 = .ok (.getfield 170, 3) := by decide +kernel
theorem dX11_told_79 : decode cX11_told 79 = .ok (.ireturn, 1) := by decide +kernel
theorem dX11_told_80 : decode cX11_told 80 = .ok (.aload_n 0, 1) := by decide +kernel
theorem dX11_told_81 : decode cX11_told 81 = .ok (.getfield 24, 3) := by decide +kernel
theorem dX11_told_84 : decode cX11_told 84 = .ok (.getfield 173, 3) := by decide +kernel
theorem dX11_told_87 : decode cX11_told 87 = .ok (.ireturn, 1) := by decide +kernel
theorem dX11_told_88 : decode cX11_told 88 = .ok (.aload_n 0, 1) := by decide +kernel
theorem dX11_told_89 : decode cX11_told 89 = .ok (.invokevirtual 176, 3) := by decide +kernel
theorem dX11_told_92 : decode cX11_told 92 = .ok (.ireturn, 1) := by decide +kernel
theorem dX11_told_93 : decode cX11_told 93 = .ok (.aload_n 0, 1) := by decide +kernel
theorem dX11_told_94 : decode cX11_told 94 = .ok (.getfield 18, 3) := by decide +kernel
theorem dX11_told_97 : decode cX11_told 97 = .ok (.getfield 147, 3) := by decide +kernel
theorem dX11_told_100 : decode cX11_told 100 = .ok (.ireturn, 1) := by decide +kernel
theorem dX11_told_101 : decode cX11_told 101 = .ok (.aload_n 0, 1) := by decide +kernel
theorem dX11_told_102 : decode cX11_told 102 = .ok (.getfield 14, 3) := by decide +kernel
theorem dX11_told_105 : decode cX11_told 105 = .ok (.getfield 147, 3) := by decide +kernel
theorem dX11_told_108 : decode cX11_told 108 = .ok (.ireturn, 1) := by decide +kernel
theorem dX11_told_109 : decode cX11_told 109 = .ok (.bipush (-101), 2) := by decide +kernel
theorem dX11_told_111 : decode cX11_told 111 = .ok (.ireturn, 1) := by decide +kernel
def sX11_told (F : Nat) (h : Hp) (x0 : Nat) (x1 : Int32) : Option (Int32 × Hp) := br (x1 = (0 : Int32)) (cl (hR h x0 2) fun r_1 => some (hI h r_1 0, h)) (br (x1 = (1 : Int32)) (cl (hR h x0 2) fun r_3 => some (hI h r_3 1, h)) (br (x1 = (2 : Int32)) (cl (hR h x0 2) fun r_5 => some (hI h r_5 3, h)) (br (x1 = (3 : Int32)) (cl (hR h x0 2) fun r_7 => some (hI h r_7 4, h)) (br (x1 = (4 : Int32)) (cl (hR h x0 2) fun r_9 => some (hI h r_9 5, h)) (br (x1 = (5 : Int32)) (cl (sX11_countPlaces F h x0) fun o_11 => some (o_11.1, o_11.2)) (br (x1 = (6 : Int32)) (cl (hR h x0 1) fun r_13 => some (hI h r_13 1, h)) (br (x1 = (7 : Int32)) (cl (hR h x0 0) fun r_15 => some (hI h r_15 1, h)) (some ((-101 : Int32), h)))))))))
set_option maxRecDepth 20000 in
theorem ct_X11_told (l : Launch) (X : Ec) (F : Nat) {h : Hp} {x0 : Nat} {x1 : Int32} {o : Int32 × Hp} (k_x0 : hK h x0 = 11) (hE : sX11_told F h x0 x1 = some o) : MetI l yX11_told cX11_told 2 (some .int) 1 22 X [.ref x0, .int x1] h o := by
  refine x_met (by decide) (Nat.le_of_ble_eq_true rfl) ?_
  intro p e s m below meth c ls C hl hW hZ
  have hl : lv_has ls 2 [(0, .ref x0), (1, .int x1)] := hl
  have hkm : Km h h := Km.rf h
  refine lv_iload_n C.1 C.2.1 dX11_told_0 rfl (lv_at hl 1 rfl) ?_
  by_cases c_2 : x1 = (0 : Int32)
  · have hE := br_p hE c_2
    refine lv_tableIn (off := 47) (tgt := 48) C.1 C.2.1 dX11_told_1 (by rw [c_2]; decide) (by rw [c_2]; decide) (by rw [c_2]; rfl) (by decide) ?_
    refine lv_aload_n C.1 C.2.1 dX11_told_48 rfl (lv_at hl 0 rfl) ?_
    obtain ⟨r_1, er_1, hE⟩ := cl_e hE
    refine gf_X11_24 C hW k_x0 er_1 dX11_told_49 (fun k_r_1 => ?_)
    refine gf_X11_164 C hW k_r_1 dX11_told_52 ?_
    exact x_iret C rfl rfl hW hZ hkm hE dX11_told_55
  have hE := br_n hE c_2
  by_cases c_4 : x1 = (1 : Int32)
  · have hE := br_p hE c_4
    refine lv_tableIn (off := 55) (tgt := 56) C.1 C.2.1 dX11_told_1 (by rw [c_4]; decide) (by rw [c_4]; decide) (by rw [c_4]; rfl) (by decide) ?_
    refine lv_aload_n C.1 C.2.1 dX11_told_56 rfl (lv_at hl 0 rfl) ?_
    obtain ⟨r_3, er_3, hE⟩ := cl_e hE
    refine gf_X11_24 C hW k_x0 er_3 dX11_told_57 (fun k_r_3 => ?_)
    refine gf_X11_167 C hW k_r_3 dX11_told_60 ?_
    exact x_iret C rfl rfl hW hZ hkm hE dX11_told_63
  have hE := br_n hE c_4
  by_cases c_6 : x1 = (2 : Int32)
  · have hE := br_p hE c_6
    refine lv_tableIn (off := 63) (tgt := 64) C.1 C.2.1 dX11_told_1 (by rw [c_6]; decide) (by rw [c_6]; decide) (by rw [c_6]; rfl) (by decide) ?_
    refine lv_aload_n C.1 C.2.1 dX11_told_64 rfl (lv_at hl 0 rfl) ?_
    obtain ⟨r_5, er_5, hE⟩ := cl_e hE
    refine gf_X11_24 C hW k_x0 er_5 dX11_told_65 (fun k_r_5 => ?_)
    refine gf_X11_161 C hW k_r_5 dX11_told_68 ?_
    exact x_iret C rfl rfl hW hZ hkm hE dX11_told_71
  have hE := br_n hE c_6
  by_cases c_8 : x1 = (3 : Int32)
  · have hE := br_p hE c_8
    refine lv_tableIn (off := 71) (tgt := 72) C.1 C.2.1 dX11_told_1 (by rw [c_8]; decide) (by rw [c_8]; decide) (by rw [c_8]; rfl) (by decide) ?_
    refine lv_aload_n C.1 C.2.1 dX11_told_72 rfl (lv_at hl 0 rfl) ?_
    obtain ⟨r_7, er_7, hE⟩ := cl_e hE
    refine gf_X11_24 C hW k_x0 er_7 dX11_told_73 (fun k_r_7 => ?_)
    refine gf_X11_170 C hW k_r_7 dX11_told_76 ?_
    exact x_iret C rfl rfl hW hZ hkm hE dX11_told_79
  have hE := br_n hE c_8
  by_cases c_10 : x1 = (4 : Int32)
  · have hE := br_p hE c_10
    refine lv_tableIn (off := 79) (tgt := 80) C.1 C.2.1 dX11_told_1 (by rw [c_10]; decide) (by rw [c_10]; decide) (by rw [c_10]; rfl) (by decide) ?_
    refine lv_aload_n C.1 C.2.1 dX11_told_80 rfl (lv_at hl 0 rfl) ?_
    obtain ⟨r_9, er_9, hE⟩ := cl_e hE
    refine gf_X11_24 C hW k_x0 er_9 dX11_told_81 (fun k_r_9 => ?_)
    refine gf_X11_173 C hW k_r_9 dX11_told_84 ?_
    exact x_iret C rfl rfl hW hZ hkm hE dX11_told_87
  have hE := br_n hE c_10
  by_cases c_12 : x1 = (5 : Int32)
  · have hE := br_p hE c_12
    refine lv_tableIn (off := 87) (tgt := 88) C.1 C.2.1 dX11_told_1 (by rw [c_12]; decide) (by rw [c_12]; decide) (by rw [c_12]; rfl) (by decide) ?_
    refine lv_aload_n C.1 C.2.1 dX11_told_88 rfl (lv_at hl 0 rfl) ?_
    obtain ⟨o_11, eo_11, hE⟩ := cl_e hE
    refine x_kI (o := o_11) (z_runV (As := []) (rest := []) C (ct_X11_countPlaces l X F k_x0 eo_11) cw_X11_176 hW hZ k_x0 (by decide) rfl rfl rfl hl.1 (Nat.le_of_ble_eq_true rfl) rfl dX11_told_89 ⟨Nat.le_of_ble_eq_true rfl, Nat.le_of_ble_eq_true rfl⟩ ⟨Nat.le_refl _, Nat.le_refl _⟩) hZ (fun _ _ hW km hZ => ?_)
    replace hkm := hkm.tr km
    replace k_x0 := km.at k_x0 (by decide)
    exact x_iret C rfl rfl hW hZ hkm hE dX11_told_92
  have hE := br_n hE c_12
  by_cases c_14 : x1 = (6 : Int32)
  · have hE := br_p hE c_14
    refine lv_tableIn (off := 92) (tgt := 93) C.1 C.2.1 dX11_told_1 (by rw [c_14]; decide) (by rw [c_14]; decide) (by rw [c_14]; rfl) (by decide) ?_
    refine lv_aload_n C.1 C.2.1 dX11_told_93 rfl (lv_at hl 0 rfl) ?_
    obtain ⟨r_13, er_13, hE⟩ := cl_e hE
    refine gf_X11_18 C hW k_x0 er_13 dX11_told_94 (fun k_r_13 => ?_)
    refine gf_X11_147 C hW k_r_13 dX11_told_97 ?_
    exact x_iret C rfl rfl hW hZ hkm hE dX11_told_100
  have hE := br_n hE c_14
  by_cases c_16 : x1 = (7 : Int32)
  · have hE := br_p hE c_16
    refine lv_tableIn (off := 100) (tgt := 101) C.1 C.2.1 dX11_told_1 (by rw [c_16]; decide) (by rw [c_16]; decide) (by rw [c_16]; rfl) (by decide) ?_
    refine lv_aload_n C.1 C.2.1 dX11_told_101 rfl (lv_at hl 0 rfl) ?_
    obtain ⟨r_15, er_15, hE⟩ := cl_e hE
    refine gf_X11_14 C hW k_x0 er_15 dX11_told_102 (fun k_r_15 => ?_)
    refine gf_X11_147 C hW k_r_15 dX11_told_105 ?_
    exact x_iret C rfl rfl hW hZ hkm hE dX11_told_108
  have hE := br_n hE c_16
  refine lv_tableOut (tgt := 109) C.1 C.2.1 dX11_told_1 (by have zc_2 := lv_neT (a := 0) c_2 (by decide); have zc_4 := lv_neT (a := 1) c_4 (by decide); have zc_6 := lv_neT (a := 2) c_6 (by decide); have zc_8 := lv_neT (a := 3) c_8 (by decide); have zc_10 := lv_neT (a := 4) c_10 (by decide); have zc_12 := lv_neT (a := 5) c_12 (by decide); have zc_14 := lv_neT (a := 6) c_14 (by decide); have zc_16 := lv_neT (a := 7) c_16 (by decide); omega) (by decide) ?_
  refine lv_bipush (v := (-101 : Int32)) C.1 C.2.1 dX11_told_109 (by decide) ?_
  exact x_iret C rfl rfl hW hZ hkm hE dX11_told_111
theorem m_948 : Cond.methodLink RX11 179 yX9_byteAt ∈ W0 := w0_in (List.mem_append_right _ (List.mem_of_getElem? (i := 948) (by decide +kernel))) rfl
theorem cw_X11_179 : cwd RX11 179 yX9_byteAt cX9_byteAt 2 (some .int) false 1 := ⟨m_659, m_948, m_2, ⟨m_657, m_658⟩, by decide, by decide, by decide +kernel⟩
theorem dX11_out_0 : decode cX11_out 0 = .ok (.aload_n 0, 1) := by decide +kernel
theorem dX11_out_1 : decode cX11_out 1 = .ok (.getfield 18, 3) := by decide +kernel
theorem dX11_out_4 : decode cX11_out 4 = .ok (.iload_n 1, 1) := by decide +kernel
theorem dX11_out_5 : decode cX11_out 5 = .ok (.invokevirtual 179, 3) := by decide +kernel
theorem dX11_out_8 : decode cX11_out 8 = .ok (.ireturn, 1) := by decide +kernel
def sX11_out (h : Hp) (x0 : Nat) (x1 : Int32) : Option (Int32 × Hp) := cl (hR h x0 1) fun r_1 => cl (sX9_byteAt h r_1 x1) fun o_2 => some (o_2.1, o_2.2)
set_option maxRecDepth 20000 in
theorem ct_X11_out (l : Launch) (X : Ec) {h : Hp} {x0 : Nat} {x1 : Int32} {o : Int32 × Hp} (k_x0 : hK h x0 = 11) (hE : sX11_out h x0 x1 = some o) : MetI l yX11_out cX11_out 2 (some .int) 1 21 X [.ref x0, .int x1] h o := by
  refine x_met (by decide) (Nat.le_of_ble_eq_true rfl) ?_
  intro p e s m below meth c ls C hl hW hZ
  have hl : lv_has ls 2 [(0, .ref x0), (1, .int x1)] := hl
  have hkm : Km h h := Km.rf h
  refine lv_aload_n C.1 C.2.1 dX11_out_0 rfl (lv_at hl 0 rfl) ?_
  obtain ⟨r_1, er_1, hE⟩ := cl_e hE
  refine gf_X11_18 C hW k_x0 er_1 dX11_out_1 (fun k_r_1 => ?_)
  refine lv_iload_n C.1 C.2.1 dX11_out_4 rfl (lv_at hl 1 rfl) ?_
  obtain ⟨o_2, eo_2, hE⟩ := cl_e hE
  refine x_kI (o := o_2) (z_runV (As := [.int x1]) (rest := []) C (ct_X9_byteAt l X k_r_1 eo_2) cw_X11_179 hW hZ k_r_1 (by decide) rfl rfl rfl hl.1 (Nat.le_of_ble_eq_true rfl) rfl dX11_out_5 ⟨Nat.le_of_ble_eq_true rfl, Nat.le_of_ble_eq_true rfl⟩ ⟨Nat.le_refl _, Nat.le_refl _⟩) hZ (fun _ _ hW km hZ => ?_)
  replace hkm := hkm.tr km
  replace k_x0 := km.at k_x0 (by decide)
  exact x_iret C rfl rfl hW hZ hkm hE dX11_out_8
theorem dX11_freePlace_0 : decode cX11_freePlace 0 = .ok (.iconst 0, 1) := by decide +kernel
theorem dX11_freePlace_1 : decode cX11_freePlace 1 = .ok (.istore_n 1, 1) := by decide +kernel
theorem dX11_freePlace_2 : decode cX11_freePlace 2 = .ok (.iload_n 1, 1) := by decide +kernel
theorem dX11_freePlace_3 : decode cX11_freePlace 3 = .ok (.bipush 60, 2) := by decide +kernel
theorem dX11_freePlace_5 : decode cX11_freePlace 5 = .ok (.if_icmp .ge 20, 3) := by decide +kernel
theorem dX11_freePlace_8 : decode cX11_freePlace 8 = .ok (.aload_n 0, 1) := by decide +kernel
theorem dX11_freePlace_9 : decode cX11_freePlace 9 = .ok (.getfield 107, 3) := by decide +kernel
theorem dX11_freePlace_12 : decode cX11_freePlace 12 = .ok (.iload_n 1, 1) := by decide +kernel
theorem dX11_freePlace_13 : decode cX11_freePlace 13 = .ok (.baload, 1) := by decide +kernel
theorem dX11_freePlace_14 : decode cX11_freePlace 14 = .ok (.ifCond .ne 5, 3) := by decide +kernel
theorem dX11_freePlace_17 : decode cX11_freePlace 17 = .ok (.iload_n 1, 1) := by decide +kernel
theorem dX11_freePlace_18 : decode cX11_freePlace 18 = .ok (.ireturn, 1) := by decide +kernel
theorem dX11_freePlace_19 : decode cX11_freePlace 19 = .ok (.iinc 1 1, 3) := by decide +kernel
theorem dX11_freePlace_22 : decode cX11_freePlace 22 = .ok (.goto (-20), 3) := by decide +kernel
theorem dX11_freePlace_25 : decode cX11_freePlace 25 = .ok (.iconst (-1), 1) := by decide +kernel
theorem dX11_freePlace_26 : decode cX11_freePlace 26 = .ok (.ireturn, 1) := by decide +kernel
def sX11_freePlace_2 (F : Nat) : Nat → Hp → Nat → Int32 → Option (Int32 × Hp)
  | 0, _, _, _ => none
  | f + 1, h, x0, x1 => br ((60 : Int32) ≤ x1) (some ((-1 : Int32), h)) (cl (hR h x0 14) fun r_2 => gd (inB x1 (hN h r_2)) <| br ((hI h r_2 x1.toNatClampNeg) = 0) (some (x1, h)) (nm (x1 + (1 : Int32)) fun v_5 => sX11_freePlace_2 F f h x0 v_5))
def sX11_freePlace (F : Nat) (h : Hp) (x0 : Nat) : Option (Int32 × Hp) := sX11_freePlace_2 F F h x0 (0 : Int32)
set_option maxRecDepth 20000 in
theorem moX11_freePlace_2 {o : Int32 × Hp} {F : Nat} : ∀ (f : Nat) {h : Hp} {x0 : Nat} {x1 : Int32}, sX11_freePlace_2 F f h x0 x1 = some o → Le h o.2 := by
  intro f
  induction f with
  | zero =>
    intro h x0 x1 hE
    rw [sX11_freePlace_2] at hE
    cases hE
  | succ f ih =>
    intro h x0 x1 hE
    rw [sX11_freePlace_2] at hE
    have mk_2 : ∀ (h : Hp) (x0 : Nat) (x1 : Int32), sX11_freePlace_2 F f h x0 x1 = some o → Le h o.2 := fun h x0 x1 hE => ih hE
    rcases br_e hE with ⟨_, hE⟩ | ⟨_, hE⟩
    · cases hE
      exact Le.rf _
    · obtain ⟨r_2, er_2, hE⟩ := cl_e hE
      obtain ⟨g_3, hE⟩ := gd_e hE
      rcases br_e hE with ⟨_, hE⟩ | ⟨_, hE⟩
      · cases hE
        exact Le.rf _
      · obtain ⟨v_5, ev_5, hE⟩ := nm_e2 hE
        exact mk_2 _ _ _ hE
set_option maxRecDepth 20000 in
theorem moX11_freePlace {o : Int32 × Hp} {F : Nat} {h : Hp} {x0 : Nat} (hE : sX11_freePlace F h x0 = some o) : Le h o.2 := by
  exact moX11_freePlace_2 _ hE
set_option maxRecDepth 20000 in
theorem bX11_freePlace_2 {p : Program} {l : Launch} {e : Env} {s : State} {m : MethodId} {args : Array Value} {below : List Frame} {meth : Method} {c : Code} {X : Ec} {h0 : Hp} {o : Int32 × Hp} {F : Nat} (C : Cx X p s m args meth c RX11 cX11_freePlace 2 (some .int) "freePlace") : ∀ (f : Nat) {h : Hp} {x0 : Nat} {x1 : Int32} {H : Heap} {locs : List Loc} (k_x0 : hK h x0 = 11), Km h0 h → Wx X h H → va_S (aA (eB X)) s.heap H locs → ∀ (ls : Array Slot), lv_has ls 2 [(0, .ref x0), (1, .int x1)] → sX11_freePlace_2 F f h x0 x1 = some o → W p l e (rm 0 0) s m args below meth c H locs 0 0 (MQ below (QI X h0 o.1 o.2) args s 0 0 (aA (eB X))) (F0 m 2 ls []) := by
  intro f
  induction f with
  | zero =>
    intro h x0 x1 H locs k_x0 hkm hW hZ ls hl hE
    rw [sX11_freePlace_2] at hE
    cases hE
  | succ f ih =>
    intro h x0 x1 H locs k_x0 hkm hW hZ ls hl hE
    rw [sX11_freePlace_2] at hE
    have hk_2 : ∀ (h : Hp) (x0 : Nat) (x1 : Int32) (H : Heap) (locs : List Loc), hK h x0 = 11 → Km h0 h → Wx X h H → va_S (aA (eB X)) s.heap H locs → ∀ (ls : Array Slot), lv_has ls 2 [(0, .ref x0), (1, .int x1)] → sX11_freePlace_2 F f h x0 x1 = some o → W p l e (rm 0 0) s m args below meth c H locs 0 0 (MQ below (QI X h0 o.1 o.2) args s 0 0 (aA (eB X))) (F0 m 2 ls []) := fun h x0 x1 H locs k_x0 a b c ls hl hE => ih k_x0 a b c ls hl hE
    refine lv_iload_n C.1 C.2.1 dX11_freePlace_2 rfl (lv_at hl 1 rfl) ?_
    refine lv_bipush (v := (60 : Int32)) C.1 C.2.1 dX11_freePlace_3 (by decide) ?_
    refine lv_icmp_ge (tgt := 25) C.1 C.2.1 dX11_freePlace_5 (by decide) (fun c_1 => ?_) (fun c_1 => ?_)
    · have hE := br_p hE c_1
      refine lv_iconst (v := (-1 : Int32)) C.1 C.2.1 dX11_freePlace_25 (by decide) ?_
      exact x_iret C rfl rfl hW hZ hkm hE dX11_freePlace_26
    · have hE := br_n hE c_1
      refine lv_aload_n C.1 C.2.1 dX11_freePlace_8 rfl (lv_at hl 0 rfl) ?_
      obtain ⟨r_2, er_2, hE⟩ := cl_e hE
      refine gf_X11_107 C hW k_x0 er_2 dX11_freePlace_9 (fun k_r_2 => ?_)
      refine lv_iload_n C.1 C.2.1 dX11_freePlace_12 rfl (lv_at hl 1 rfl) ?_
      obtain ⟨g_3, hE⟩ := gd_e hE
      refine y_zald C hW k_r_2 g_3 dX11_freePlace_13 ?_
      refine lv_if_ne (tgt := 19) C.1 C.2.1 dX11_freePlace_14 (by decide) (fun c_4 => ?_) (fun c_4 => ?_)
      · have hE := br_n hE c_4
        obtain ⟨v_5, ev_5, hE⟩ := nm_e2 hE
        refine lv_iinc (v := v_5) (lv' := [(1, .int v_5), (0, .ref x0)]) C.1 C.2.1 dX11_freePlace_19 hl (k := 1) rfl (by rw [ev_5]; rfl) (by decide) rfl (fun ls hl => ?_)
        refine lv_goto (tgt := 2) C.1 C.2.1 dX11_freePlace_22 (by decide) ?_
        exact hk_2 _ _ _ _ _ k_x0 hkm hW hZ _ (lv_sub hl [1, 0] rfl) hE
      · have hE := br_p hE c_4
        refine lv_iload_n C.1 C.2.1 dX11_freePlace_17 rfl (lv_at hl 1 rfl) ?_
        exact x_iret C rfl rfl hW hZ hkm hE dX11_freePlace_18
set_option maxRecDepth 20000 in
theorem ct_X11_freePlace (l : Launch) (X : Ec) (F : Nat) {h : Hp} {x0 : Nat} {o : Int32 × Hp} (k_x0 : hK h x0 = 11) (hE : sX11_freePlace F h x0 = some o) : MetI l yX11_freePlace cX11_freePlace 2 (some .int) 0 0 X [.ref x0] h o := by
  refine x_met (by decide) (Nat.le_of_ble_eq_true rfl) ?_
  intro p e s m below meth c ls C hl hW hZ
  have hl : lv_has ls 2 [(0, .ref x0)] := hl
  have hkm : Km h h := Km.rf h
  refine lv_iconst (v := (0 : Int32)) C.1 C.2.1 dX11_freePlace_0 (by decide) ?_
  refine lv_istore_n (lv' := [(1, .int (0 : Int32)), (0, .ref x0)]) C.1 C.2.1 dX11_freePlace_1 rfl hl (by decide) rfl (fun ls hl => ?_)
  exact bX11_freePlace_2 C F k_x0 hkm hW hZ _ (lv_sub hl [1, 0] rfl) hE
theorem ms_30 : Cond.selects RX11 yX11_freePlace yX11_freePlace ∈ W0 := w0_in (List.mem_append_left _ (List.mem_of_getElem? (i := 30) (by decide +kernel))) rfl
theorem m_953 : Cond.methodLink RX11 183 yX11_freePlace ∈ W0 := w0_in (List.mem_append_right _ (List.mem_of_getElem? (i := 953) (by decide +kernel))) rfl
theorem m_955 : Cond.instanceMethod yX11_freePlace ∈ W0 := w0_in (List.mem_append_right _ (List.mem_of_getElem? (i := 955) (by decide +kernel))) rfl
theorem m_956 : Cond.code yX11_freePlace cX11_freePlace 2 (some .int) ∈ W0 := w0_in (List.mem_append_right _ (List.mem_of_getElem? (i := 956) (by decide +kernel))) rfl
theorem m_957 : Cond.methodLink RX11 186 yX7_read ∈ W0 := w0_in (List.mem_append_right _ (List.mem_of_getElem? (i := 957) (by decide +kernel))) rfl
theorem m_958 : Cond.instanceMethod yX7_read ∈ W0 := w0_in (List.mem_append_right _ (List.mem_of_getElem? (i := 958) (by decide +kernel))) rfl
theorem m_959 : Cond.selects RX7 yX7_read yX7_read ∈ W0 := w0_in (List.mem_append_right _ (List.mem_of_getElem? (i := 959) (by decide +kernel))) rfl
theorem m_960 : Cond.code yX7_read cX7_read 4 (some .int) ∈ W0 := w0_in (List.mem_append_right _ (List.mem_of_getElem? (i := 960) (by decide +kernel))) rfl
theorem m_1035 : Cond.methodLink RX11 189 yX5_faultOf ∈ W0 := w0_in (List.mem_append_right _ (List.mem_of_getElem? (i := 1035) (by decide +kernel))) rfl
section
variable {p : Program} {l : Launch} {e : Env} {R : Room} {s : State} {m : MethodId} {args : Array Value} {below : List Frame} {meth : Method} {c : Code} {H : Heap} {locs : List Loc} {cells slots : Nat} {Q : State → Prop}
variable {cc : ByteArray} {pc : Nat} {ls : Array Slot} {rest : List Value} {X : Ec} {h h1 : Hp} {nL : Nat} {rt : Option FieldType} {mn : String}
theorem gf_X11_59 {a r : Nat} (C : Cx X p s m args meth c RX11 cc nL rt mn) (hW : Wx X h H) (ha : hK h a = 11) (hr : hR h a 7 = some r) (hdg : decode cc pc = .ok (.getfield 59, 3)) (kk : hK h r = 7 → W p l e R s m args below meth c H locs cells slots Q (F0 m (pc + 3) ls (.ref r :: rest))) : W p l e R s m args below meth c H locs cells slots Q (F0 m pc ls (.ref a :: rest)) :=
  y_getr C hW ha i_X11 (by decide) rfl (by decide) m_859 rfl rfl hr hdg kk
end
theorem cw_X11_183 : cwd RX11 183 yX11_freePlace cX11_freePlace 2 (some .int) false 0 := ⟨m_956, m_953, m_1, ⟨m_955, ms_30⟩, by decide, by decide, by decide +kernel⟩
theorem cw_X11_186 : cwd RX11 186 yX7_read cX7_read 4 (some .int) false 2 := ⟨m_960, m_957, m_10, ⟨m_958, m_959⟩, by decide, by decide, by decide +kernel⟩
theorem cw_X11_189 : cwd RX11 189 yX5_faultOf cX5_faultOf 2 (some .int) false 1 := ⟨m_1038, m_1035, m_7, ⟨m_1036, m_1037⟩, by decide, by decide, by decide +kernel⟩
theorem dX11_position_0 : decode cX11_position 0 = .ok (.aload_n 0, 1) := by decide +kernel
theorem dX11_position_1 : decode cX11_position 1 = .ok (.invokevirtual 183, 3) := by decide +kernel
theorem dX11_position_4 : decode cX11_position 4 = .ok (.istore_n 1, 1) := by decide +kernel
theorem dX11_position_5 : decode cX11_position 5 = .ok (.bipush (-104), 2) := by decide +kernel
theorem dX11_position_7 : decode cX11_position 7 = .ok (.istore_n 2, 1) := by decide +kernel
theorem dX11_position_8 : decode cX11_position 8 = .ok (.iload_n 1, 1) := by decide +kernel
theorem dX11_position_9 : decode cX11_position 9 = .ok (.iconst (-1), 1) := by decide +kernel
theorem dX11_position_10 : decode cX11_position 10 = .ok (.if_icmp .eq 94, 3) := by decide +kernel
theorem dX11_position_13 : decode cX11_position 13 = .ok (.aload_n 0, 1) := by decide +kernel
theorem dX11_position_14 : decode cX11_position 14 = .ok (.getfield 103, 3) := by decide +kernel
theorem dX11_position_17 : decode cX11_position 17 = .ok (.iload_n 1, 1) := by decide +kernel
theorem dX11_position_18 : decode cX11_position 18 = .ok (.aaload, 1) := by decide +kernel
theorem dX11_position_19 : decode cX11_position 19 = .ok (.astore_n 3, 1) := by decide +kernel
theorem dX11_position_20 : decode cX11_position 20 = .ok (.aload_n 0, 1) := by decide +kernel
theorem dX11_position_21 : decode cX11_position 21 = .ok (.getfield 59, 3) := by decide +kernel
theorem dX11_position_24 : decode cX11_position 24 = .ok (.aload_n 0, 1) := by decide +kernel
theorem dX11_position_25 : decode cX11_position 25 = .ok (.getfield 14, 3) := by decide +kernel
theorem dX11_position_28 : decode cX11_position 28 = .ok (.aload_n 3, 1) := by decide +kernel
theorem dX11_position_29 : decode cX11_position 29 = .ok (.invokevirtual 186, 3) := by decide +kernel
theorem dX11_position_32 : decode cX11_position 32 = .ok (.istore 4, 2) := by decide +kernel
theorem dX11_position_34 : decode cX11_position 34 = .ok (.iload 4, 2) := by decide +kernel
theorem dX11_position_36 : decode cX11_position 36 = .ok (.iconst (-1), 1) := by decide +kernel
theorem dX11_position_37 : decode cX11_position 37 = .ok (.if_icmp .ne 14, 3) := by decide +kernel
theorem dX11_position_40 : decode cX11_position 40 = .ok (.aload_n 0, 1) := by decide +kernel
theorem dX11_position_41 : decode cX11_position 41 = .ok (.getfield 50, 3) := by decide +kernel
theorem dX11_position_44 : decode cX11_position 44 = .ok (.aload_n 3, 1) := by decide +kernel
theorem dX11_position_45 : decode cX11_position 45 = .ok (.invokevirtual 189, 3) := by decide +kernel
theorem dX11_position_48 : decode cX11_position 48 = .ok (.goto 4, 3) := by decide +kernel
theorem dX11_position_51 : decode cX11_position 51 = .ok (.iconst 0, 1) := by decide +kernel
theorem dX11_position_52 : decode cX11_position 52 = .ok (.istore 5, 2) := by decide +kernel
theorem dX11_position_54 : decode cX11_position 54 = .ok (.aload_n 0, 1) := by decide +kernel
theorem dX11_position_55 : decode cX11_position 55 = .ok (.getfield 107, 3) := by decide +kernel
theorem dX11_position_58 : decode cX11_position 58 = .ok (.iload_n 1, 1) := by decide +kernel
theorem dX11_position_59 : decode cX11_position 59 = .ok (.iload 4, 2) := by decide +kernel
theorem dX11_position_61 : decode cX11_position 61 = .ok (.iconst (-1), 1) := by decide +kernel
theorem dX11_position_62 : decode cX11_position 62 = .ok (.if_icmp .ne 12, 3) := by decide +kernel
theorem dX11_position_65 : decode cX11_position 65 = .ok (.iload 5, 2) := by decide +kernel
theorem dX11_position_67 : decode cX11_position 67 = .ok (.ifCond .ne 7, 3) := by decide +kernel
theorem dX11_position_70 : decode cX11_position 70 = .ok (.iconst 1, 1) := by decide +kernel
theorem dX11_position_71 : decode cX11_position 71 = .ok (.goto 4, 3) := by decide +kernel
theorem dX11_position_74 : decode cX11_position 74 = .ok (.iconst 0, 1) := by decide +kernel
theorem dX11_position_75 : decode cX11_position 75 = .ok (.bastore, 1) := by decide +kernel
theorem dX11_position_76 : decode cX11_position 76 = .ok (.iload 4, 2) := by decide +kernel
theorem dX11_position_78 : decode cX11_position 78 = .ok (.iconst (-1), 1) := by decide +kernel
theorem dX11_position_79 : decode cX11_position 79 = .ok (.if_icmp .eq 12, 3) := by decide +kernel
theorem dX11_position_82 : decode cX11_position 82 = .ok (.sipush (-200), 3) := by decide +kernel
theorem dX11_position_85 : decode cX11_position 85 = .ok (.iload 4, 2) := by decide +kernel
theorem dX11_position_87 : decode cX11_position 87 = .ok (.isub, 1) := by decide +kernel
theorem dX11_position_88 : decode cX11_position 88 = .ok (.goto 15, 3) := by decide +kernel
theorem dX11_position_91 : decode cX11_position 91 = .ok (.iload 5, 2) := by decide +kernel
theorem dX11_position_93 : decode cX11_position 93 = .ok (.ifCond .eq 9, 3) := by decide +kernel
theorem dX11_position_96 : decode cX11_position 96 = .ok (.iload 5, 2) := by decide +kernel
theorem dX11_position_98 : decode cX11_position 98 = .ok (.ineg, 1) := by decide +kernel
theorem dX11_position_99 : decode cX11_position 99 = .ok (.goto 4, 3) := by decide +kernel
theorem dX11_position_102 : decode cX11_position 102 = .ok (.iload_n 1, 1) := by decide +kernel
theorem dX11_position_103 : decode cX11_position 103 = .ok (.istore_n 2, 1) := by decide +kernel
theorem dX11_position_104 : decode cX11_position 104 = .ok (.aload_n 0, 1) := by decide +kernel
theorem dX11_position_105 : decode cX11_position 105 = .ok (.getfield 14, 3) := by decide +kernel
theorem dX11_position_108 : decode cX11_position 108 = .ok (.invokevirtual 144, 3) := by decide +kernel
theorem dX11_position_111 : decode cX11_position 111 = .ok (.iload_n 2, 1) := by decide +kernel
theorem dX11_position_112 : decode cX11_position 112 = .ok (.ireturn, 1) := by decide +kernel
def sX11_position_104 (F : Nat) (h : Hp) (x0 : Nat) (x2 : Int32) : Option (Int32 × Hp) := cl (hR h x0 0) fun r_1 => cl (sX9_clear h r_1) fun o_2 => some (x2, o_2)
def sX11_position_103 (F : Nat) (h : Hp) (x0 : Nat) (t0 : Int32) : Option (Int32 × Hp) := sX11_position_104 F h x0 t0
def sX11_position_75 (F : Nat) (h : Hp) (x0 : Nat) (x1 : Int32) (x4 : Int32) (x5 : Int32) (t0 : Int32) (t1 : Int32) (t2 : Nat) : Option (Int32 × Hp) := gd (inB t1 (hN h t2)) <| nm (wI h t2 t1.toNatClampNeg (vp_nar .boolean t0)) fun h_2 => br (x4 = (-1 : Int32)) (br (x5 = 0) (sX11_position_103 F h_2 x0 x1) (sX11_position_103 F h_2 x0 (-x5))) (sX11_position_103 F h_2 x0 ((-200 : Int32) - x4))
def sX11_position_74 (F : Nat) (h : Hp) (x0 : Nat) (x1 : Int32) (x4 : Int32) (x5 : Int32) (t0 : Int32) (t1 : Nat) : Option (Int32 × Hp) := sX11_position_75 F h x0 x1 x4 x5 (0 : Int32) t0 t1
def sX11_position_52 (F : Nat) (h : Hp) (x0 : Nat) (x1 : Int32) (x4 : Int32) (t0 : Int32) : Option (Int32 × Hp) := cl (hR h x0 14) fun r_1 => br (x4 = (-1 : Int32)) (br (t0 = 0) (sX11_position_75 F h x0 x1 x4 t0 (1 : Int32) x1 r_1) (sX11_position_74 F h x0 x1 x4 t0 x1 r_1)) (sX11_position_74 F h x0 x1 x4 t0 x1 r_1)
def sX11_position (F : Nat) (h : Hp) (x0 : Nat) : Option (Int32 × Hp) := cl (sX11_freePlace F h x0) fun o_1 => br (o_1.1 = (-1 : Int32)) (sX11_position_104 F o_1.2 x0 (-104 : Int32)) (cl (hR o_1.2 x0 13) fun r_3 => gd (inB o_1.1 (hN o_1.2 r_3)) <| cl (hR o_1.2 r_3 o_1.1.toNatClampNeg) fun r_5 => cl (hR o_1.2 x0 7) fun r_6 => cl (hR o_1.2 x0 0) fun r_7 => cl (sX7_read F o_1.2 r_6 r_7 r_5) fun o_8 => br (o_8.1 = (-1 : Int32)) (cl (hR o_8.2 x0 6) fun r_10 => cl (sX5_faultOf F o_8.2 r_10 r_5) fun o_11 => sX11_position_52 F o_11.2 x0 o_1.1 o_8.1 o_11.1) (sX11_position_52 F o_8.2 x0 o_1.1 o_8.1 (0 : Int32)))
set_option maxRecDepth 20000 in
theorem bX11_position_104 {p : Program} {l : Launch} {e : Env} {s : State} {m : MethodId} {args : Array Value} {below : List Frame} {meth : Method} {c : Code} {X : Ec} {h0 : Hp} {o : Int32 × Hp} {F : Nat} (C : Cx X p s m args meth c RX11 cX11_position 6 (some .int) "position") {h : Hp} {x0 : Nat} {x2 : Int32} {H : Heap} {locs : List Loc} (k_x0 : hK h x0 = 11) (hkm : Km h0 h) (hW : Wx X h H) (hZ : va_S (aA (eB X)) s.heap H locs) (ls : Array Slot) (hl : lv_has ls 6 [(0, .ref x0), (2, .int x2)]) (hE : sX11_position_104 F h x0 x2 = some o) : W p l e (rm 4 94) s m args below meth c H locs 0 0 (MQ below (QI X h0 o.1 o.2) args s 0 0 (aA (eB X))) (F0 m 104 ls []) := by
  refine lv_aload_n C.1 C.2.1 dX11_position_104 rfl (lv_at hl 0 rfl) ?_
  obtain ⟨r_1, er_1, hE⟩ := cl_e hE
  refine gf_X11_14 C hW k_x0 er_1 dX11_position_105 (fun k_r_1 => ?_)
  obtain ⟨o_2, eo_2, hE⟩ := cl_e hE
  refine x_kV (o := o_2) (z_runV (As := []) (rest := []) C (ct_X9_clear l X k_r_1 eo_2) cw_X11_144 hW hZ k_r_1 (by decide) rfl rfl rfl hl.1 (Nat.le_of_ble_eq_true rfl) rfl dX11_position_108 ⟨Nat.le_of_ble_eq_true rfl, Nat.le_of_ble_eq_true rfl⟩ ⟨Nat.le_refl _, Nat.le_refl _⟩) hZ (fun _ _ hW km hZ => ?_)
  replace hkm := hkm.tr km
  replace k_x0 := km.at k_x0 (by decide)
  refine lv_iload_n C.1 C.2.1 dX11_position_111 rfl (lv_at hl 1 rfl) ?_
  exact x_iret C rfl rfl hW hZ hkm hE dX11_position_112
set_option maxRecDepth 20000 in
theorem bX11_position_103 {p : Program} {l : Launch} {e : Env} {s : State} {m : MethodId} {args : Array Value} {below : List Frame} {meth : Method} {c : Code} {X : Ec} {h0 : Hp} {o : Int32 × Hp} {F : Nat} (C : Cx X p s m args meth c RX11 cX11_position 6 (some .int) "position") {h : Hp} {x0 : Nat} {t0 : Int32} {H : Heap} {locs : List Loc} (k_x0 : hK h x0 = 11) (hkm : Km h0 h) (hW : Wx X h H) (hZ : va_S (aA (eB X)) s.heap H locs) (ls : Array Slot) (hl : lv_has ls 6 [(0, .ref x0)]) (hE : sX11_position_103 F h x0 t0 = some o) : W p l e (rm 4 94) s m args below meth c H locs 0 0 (MQ below (QI X h0 o.1 o.2) args s 0 0 (aA (eB X))) (F0 m 103 ls [.int t0]) := by
  refine lv_istore_n (lv' := [(2, .int t0), (0, .ref x0)]) C.1 C.2.1 dX11_position_103 rfl hl (by decide) rfl (fun ls hl => ?_)
  exact bX11_position_104 C k_x0 hkm hW hZ _ (lv_sub hl [1, 0] rfl) hE
set_option maxRecDepth 20000 in
theorem bX11_position_75 {p : Program} {l : Launch} {e : Env} {s : State} {m : MethodId} {args : Array Value} {below : List Frame} {meth : Method} {c : Code} {X : Ec} {h0 : Hp} {o : Int32 × Hp} {F : Nat} (C : Cx X p s m args meth c RX11 cX11_position 6 (some .int) "position") {h : Hp} {x0 : Nat} {x1 : Int32} {x4 : Int32} {x5 : Int32} {t0 : Int32} {t1 : Int32} {t2 : Nat} {H : Heap} {locs : List Loc} (k_x0 : hK h x0 = 11) (k_t2 : hK h t2 = 19) (hkm : Km h0 h) (hW : Wx X h H) (hZ : va_S (aA (eB X)) s.heap H locs) (ls : Array Slot) (hl : lv_has ls 6 [(0, .ref x0), (1, .int x1), (4, .int x4), (5, .int x5)]) (hE : sX11_position_75 F h x0 x1 x4 x5 t0 t1 t2 = some o) : W p l e (rm 4 94) s m args below meth c H locs 0 0 (MQ below (QI X h0 o.1 o.2) args s 0 0 (aA (eB X))) (F0 m 75 ls [.int t0, .int t1, .ref t2]) := by
  obtain ⟨g_1, hE⟩ := gd_e hE
  obtain ⟨h_2, eh_2, hE⟩ := nm_e2 hE
  refine y_zast C hW hZ k_t2 g_1 eh_2 dX11_position_75 (fun _ _ hW km hZ => ?_)
  replace hkm := hkm.tr km
  replace k_x0 := km.at k_x0 (by decide)
  refine lv_iload C.1 C.2.1 dX11_position_76 (lv_at hl 2 rfl) ?_
  refine lv_iconst (v := (-1 : Int32)) C.1 C.2.1 dX11_position_78 (by decide) ?_
  refine lv_icmp_eq (tgt := 91) C.1 C.2.1 dX11_position_79 (by decide) (fun c_3 => ?_) (fun c_3 => ?_)
  · have hE := br_p hE c_3
    refine lv_iload C.1 C.2.1 dX11_position_91 (lv_at hl 3 rfl) ?_
    refine lv_if_eq (tgt := 102) C.1 C.2.1 dX11_position_93 (by decide) (fun c_4 => ?_) (fun c_4 => ?_)
    · have hE := br_p hE c_4
      refine lv_iload_n C.1 C.2.1 dX11_position_102 rfl (lv_at hl 1 rfl) ?_
      exact bX11_position_103 C k_x0 hkm hW hZ _ (lv_sub hl [0] rfl) hE
    · have hE := br_n hE c_4
      refine lv_iload C.1 C.2.1 dX11_position_96 (lv_at hl 3 rfl) ?_
      refine lv_ineg C.1 C.2.1 dX11_position_98 ?_
      refine lv_goto (tgt := 103) C.1 C.2.1 dX11_position_99 (by decide) ?_
      exact bX11_position_103 C k_x0 hkm hW hZ _ (lv_sub hl [0] rfl) hE
  · have hE := br_n hE c_3
    refine lv_sipush (v := (-200 : Int32)) C.1 C.2.1 dX11_position_82 (by decide) ?_
    refine lv_iload C.1 C.2.1 dX11_position_85 (lv_at hl 2 rfl) ?_
    refine lv_isub C.1 C.2.1 dX11_position_87 ?_
    refine lv_goto (tgt := 103) C.1 C.2.1 dX11_position_88 (by decide) ?_
    exact bX11_position_103 C k_x0 hkm hW hZ _ (lv_sub hl [0] rfl) hE
set_option maxRecDepth 20000 in
theorem bX11_position_74 {p : Program} {l : Launch} {e : Env} {s : State} {m : MethodId} {args : Array Value} {below : List Frame} {meth : Method} {c : Code} {X : Ec} {h0 : Hp} {o : Int32 × Hp} {F : Nat} (C : Cx X p s m args meth c RX11 cX11_position 6 (some .int) "position") {h : Hp} {x0 : Nat} {x1 : Int32} {x4 : Int32} {x5 : Int32} {t0 : Int32} {t1 : Nat} {H : Heap} {locs : List Loc} (k_x0 : hK h x0 = 11) (k_t1 : hK h t1 = 19) (hkm : Km h0 h) (hW : Wx X h H) (hZ : va_S (aA (eB X)) s.heap H locs) (ls : Array Slot) (hl : lv_has ls 6 [(0, .ref x0), (1, .int x1), (4, .int x4), (5, .int x5)]) (hE : sX11_position_74 F h x0 x1 x4 x5 t0 t1 = some o) : W p l e (rm 4 94) s m args below meth c H locs 0 0 (MQ below (QI X h0 o.1 o.2) args s 0 0 (aA (eB X))) (F0 m 74 ls [.int t0, .ref t1]) := by
  refine lv_iconst (v := (0 : Int32)) C.1 C.2.1 dX11_position_74 (by decide) ?_
  exact bX11_position_75 C k_x0 k_t1 hkm hW hZ _ (lv_sub hl [0, 1, 2, 3] rfl) hE
set_option maxRecDepth 20000 in
theorem bX11_position_52 {p : Program} {l : Launch} {e : Env} {s : State} {m : MethodId} {args : Array Value} {below : List Frame} {meth : Method} {c : Code} {X : Ec} {h0 : Hp} {o : Int32 × Hp} {F : Nat} (C : Cx X p s m args meth c RX11 cX11_position 6 (some .int) "position") {h : Hp} {x0 : Nat} {x1 : Int32} {x4 : Int32} {t0 : Int32} {H : Heap} {locs : List Loc} (k_x0 : hK h x0 = 11) (hkm : Km h0 h) (hW : Wx X h H) (hZ : va_S (aA (eB X)) s.heap H locs) (ls : Array Slot) (hl : lv_has ls 6 [(0, .ref x0), (1, .int x1), (4, .int x4)]) (hE : sX11_position_52 F h x0 x1 x4 t0 = some o) : W p l e (rm 4 94) s m args below meth c H locs 0 0 (MQ below (QI X h0 o.1 o.2) args s 0 0 (aA (eB X))) (F0 m 52 ls [.int t0]) := by
  refine lv_istore (lv' := [(5, .int t0), (0, .ref x0), (1, .int x1), (4, .int x4)]) C.1 C.2.1 dX11_position_52 hl (by decide) rfl (fun ls hl => ?_)
  refine lv_aload_n C.1 C.2.1 dX11_position_54 rfl (lv_at hl 1 rfl) ?_
  obtain ⟨r_1, er_1, hE⟩ := cl_e hE
  refine gf_X11_107 C hW k_x0 er_1 dX11_position_55 (fun k_r_1 => ?_)
  refine lv_iload_n C.1 C.2.1 dX11_position_58 rfl (lv_at hl 2 rfl) ?_
  refine lv_iload C.1 C.2.1 dX11_position_59 (lv_at hl 3 rfl) ?_
  refine lv_iconst (v := (-1 : Int32)) C.1 C.2.1 dX11_position_61 (by decide) ?_
  refine lv_icmp_ne (tgt := 74) C.1 C.2.1 dX11_position_62 (by decide) (fun c_2 => ?_) (fun c_2 => ?_)
  · have hE := br_n hE c_2
    exact bX11_position_74 C k_x0 k_r_1 hkm hW hZ _ (lv_sub hl [1, 2, 3, 0] rfl) hE
  · have hE := br_p hE c_2
    refine lv_iload C.1 C.2.1 dX11_position_65 (lv_at hl 0 rfl) ?_
    refine lv_if_ne (tgt := 74) C.1 C.2.1 dX11_position_67 (by decide) (fun c_3 => ?_) (fun c_3 => ?_)
    · have hE := br_n hE c_3
      exact bX11_position_74 C k_x0 k_r_1 hkm hW hZ _ (lv_sub hl [1, 2, 3, 0] rfl) hE
    · have hE := br_p hE c_3
      refine lv_iconst (v := (1 : Int32)) C.1 C.2.1 dX11_position_70 (by decide) ?_
      refine lv_goto (tgt := 75) C.1 C.2.1 dX11_position_71 (by decide) ?_
      exact bX11_position_75 C k_x0 k_r_1 hkm hW hZ _ (lv_sub hl [1, 2, 3, 0] rfl) hE
set_option maxRecDepth 20000 in
theorem ct_X11_position (l : Launch) (X : Ec) (F : Nat) {h : Hp} {x0 : Nat} {o : Int32 × Hp} (k_x0 : hK h x0 = 11) (hE : sX11_position F h x0 = some o) : MetI l yX11_position cX11_position 6 (some .int) 4 94 X [.ref x0] h o := by
  refine x_met (by decide) (Nat.le_of_ble_eq_true rfl) ?_
  intro p e s m below meth c ls C hl hW hZ
  have hl : lv_has ls 6 [(0, .ref x0)] := hl
  have hkm : Km h h := Km.rf h
  refine lv_aload_n C.1 C.2.1 dX11_position_0 rfl (lv_at hl 0 rfl) ?_
  obtain ⟨o_1, eo_1, hE⟩ := cl_e hE
  refine x_kI (o := o_1) (z_runV (As := []) (rest := []) C (ct_X11_freePlace l X F k_x0 eo_1) cw_X11_183 hW hZ k_x0 (by decide) rfl rfl rfl hl.1 (Nat.le_of_ble_eq_true rfl) rfl dX11_position_1 ⟨Nat.le_of_ble_eq_true rfl, Nat.le_of_ble_eq_true rfl⟩ ⟨Nat.le_refl _, Nat.le_refl _⟩) hZ (fun _ _ hW km hZ => ?_)
  replace hkm := hkm.tr km
  replace k_x0 := km.at k_x0 (by decide)
  refine lv_istore_n (lv' := [(1, .int o_1.1), (0, .ref x0)]) C.1 C.2.1 dX11_position_4 rfl hl (by decide) rfl (fun ls hl => ?_)
  refine lv_bipush (v := (-104 : Int32)) C.1 C.2.1 dX11_position_5 (by decide) ?_
  refine lv_istore_n (lv' := [(2, .int (-104 : Int32)), (1, .int o_1.1), (0, .ref x0)]) C.1 C.2.1 dX11_position_7 rfl hl (by decide) rfl (fun ls hl => ?_)
  refine lv_iload_n C.1 C.2.1 dX11_position_8 rfl (lv_at hl 1 rfl) ?_
  refine lv_iconst (v := (-1 : Int32)) C.1 C.2.1 dX11_position_9 (by decide) ?_
  refine lv_icmp_eq (tgt := 104) C.1 C.2.1 dX11_position_10 (by decide) (fun c_2 => ?_) (fun c_2 => ?_)
  · have hE := br_p hE c_2
    exact bX11_position_104 C k_x0 hkm hW hZ _ (lv_sub hl [2, 0] rfl) hE
  · have hE := br_n hE c_2
    refine lv_aload_n C.1 C.2.1 dX11_position_13 rfl (lv_at hl 2 rfl) ?_
    obtain ⟨r_3, er_3, hE⟩ := cl_e hE
    refine gf_X11_103 C hW k_x0 er_3 dX11_position_14 (fun k_r_3 => ?_)
    refine lv_iload_n C.1 C.2.1 dX11_position_17 rfl (lv_at hl 1 rfl) ?_
    obtain ⟨g_4, hE⟩ := gd_e hE
    obtain ⟨r_5, er_5, hE⟩ := cl_e hE
    refine y_aald (t0 := 4) C hW k_r_3 (by decide) (by decide) rfl rfl rfl (fun _ => rfl) g_4 er_5 dX11_position_18 (fun k_r_5 => ?_)
    refine lv_astore_n (lv' := [(3, .ref r_5), (2, .int (-104 : Int32)), (1, .int o_1.1), (0, .ref x0)]) C.1 C.2.1 dX11_position_19 rfl hl (by decide) rfl (fun ls hl => ?_)
    refine lv_aload_n C.1 C.2.1 dX11_position_20 rfl (lv_at hl 3 rfl) ?_
    obtain ⟨r_6, er_6, hE⟩ := cl_e hE
    refine gf_X11_59 C hW k_x0 er_6 dX11_position_21 (fun k_r_6 => ?_)
    refine lv_aload_n C.1 C.2.1 dX11_position_24 rfl (lv_at hl 3 rfl) ?_
    obtain ⟨r_7, er_7, hE⟩ := cl_e hE
    refine gf_X11_14 C hW k_x0 er_7 dX11_position_25 (fun k_r_7 => ?_)
    refine lv_aload_n C.1 C.2.1 dX11_position_28 rfl (lv_at hl 0 rfl) ?_
    obtain ⟨o_8, eo_8, hE⟩ := cl_e hE
    refine x_kI (o := o_8) (z_runV (As := [.ref r_7, .ref r_5]) (rest := []) C (ct_X7_read l X F k_r_6 k_r_7 k_r_5 eo_8) cw_X11_186 hW hZ k_r_6 (by decide) rfl rfl rfl hl.1 (Nat.le_of_ble_eq_true rfl) rfl dX11_position_29 ⟨Nat.le_of_ble_eq_true rfl, Nat.le_of_ble_eq_true rfl⟩ ⟨Nat.le_refl _, Nat.le_refl _⟩) hZ (fun _ _ hW km hZ => ?_)
    replace hkm := hkm.tr km
    replace k_r_5 := km.at k_r_5 (by decide)
    replace k_x0 := km.at k_x0 (by decide)
    refine lv_istore (lv' := [(4, .int o_8.1), (3, .ref r_5), (2, .int (-104 : Int32)), (1, .int o_1.1), (0, .ref x0)]) C.1 C.2.1 dX11_position_32 hl (by decide) rfl (fun ls hl => ?_)
    refine lv_iload C.1 C.2.1 dX11_position_34 (lv_at hl 0 rfl) ?_
    refine lv_iconst (v := (-1 : Int32)) C.1 C.2.1 dX11_position_36 (by decide) ?_
    refine lv_icmp_ne (tgt := 51) C.1 C.2.1 dX11_position_37 (by decide) (fun c_9 => ?_) (fun c_9 => ?_)
    · have hE := br_n hE c_9
      refine lv_iconst (v := (0 : Int32)) C.1 C.2.1 dX11_position_51 (by decide) ?_
      exact bX11_position_52 C k_x0 hkm hW hZ _ (lv_sub hl [4, 3, 0] rfl) hE
    · have hE := br_p hE c_9
      refine lv_aload_n C.1 C.2.1 dX11_position_40 rfl (lv_at hl 4 rfl) ?_
      obtain ⟨r_10, er_10, hE⟩ := cl_e hE
      refine gf_X11_50 C hW k_x0 er_10 dX11_position_41 (fun k_r_10 => ?_)
      refine lv_aload_n C.1 C.2.1 dX11_position_44 rfl (lv_at hl 1 rfl) ?_
      obtain ⟨o_11, eo_11, hE⟩ := cl_e hE
      refine x_kI (o := o_11) (z_runV (As := [.ref r_5]) (rest := []) C (ct_X5_faultOf l X F k_r_10 k_r_5 eo_11) cw_X11_189 hW hZ k_r_10 (by decide) rfl rfl rfl hl.1 (Nat.le_of_ble_eq_true rfl) rfl dX11_position_45 ⟨Nat.le_of_ble_eq_true rfl, Nat.le_of_ble_eq_true rfl⟩ ⟨Nat.le_refl _, Nat.le_refl _⟩) hZ (fun _ _ hW km hZ => ?_)
      replace hkm := hkm.tr km
      replace k_r_5 := km.at k_r_5 (by decide)
      replace k_x0 := km.at k_x0 (by decide)
      refine lv_goto (tgt := 52) C.1 C.2.1 dX11_position_48 (by decide) ?_
      exact bX11_position_52 C k_x0 hkm hW hZ _ (lv_sub hl [4, 3, 0] rfl) hE
theorem dX11_isPlace_0 : decode cX11_isPlace 0 = .ok (.iload_n 1, 1) := by decide +kernel
theorem dX11_isPlace_1 : decode cX11_isPlace 1 = .ok (.ifCond .lt 22, 3) := by decide +kernel
theorem dX11_isPlace_4 : decode cX11_isPlace 4 = .ok (.iload_n 1, 1) := by decide +kernel
theorem dX11_isPlace_5 : decode cX11_isPlace 5 = .ok (.bipush 60, 2) := by decide +kernel
theorem dX11_isPlace_7 : decode cX11_isPlace 7 = .ok (.if_icmp .ge 16, 3) := by decide +kernel
theorem dX11_isPlace_10 : decode cX11_isPlace 10 = .ok (.aload_n 0, 1) := by decide +kernel
theorem dX11_isPlace_11 : decode cX11_isPlace 11 = .ok (.getfield 107, 3) := by decide +kernel
theorem dX11_isPlace_14 : decode cX11_isPlace 14 = .ok (.iload_n 1, 1) := by decide +kernel
theorem dX11_isPlace_15 : decode cX11_isPlace 15 = .ok (.baload, 1) := by decide +kernel
theorem dX11_isPlace_16 : decode cX11_isPlace 16 = .ok (.ifCond .eq 7, 3) := by decide +kernel
theorem dX11_isPlace_19 : decode cX11_isPlace 19 = .ok (.iconst 1, 1) := by decide +kernel
theorem dX11_isPlace_20 : decode cX11_isPlace 20 = .ok (.goto 4, 3) := by decide +kernel
theorem dX11_isPlace_23 : decode cX11_isPlace 23 = .ok (.iconst 0, 1) := by decide +kernel
theorem dX11_isPlace_24 : decode cX11_isPlace 24 = .ok (.ireturn, 1) := by decide +kernel
def sX11_isPlace_24 (h : Hp) (t0 : Int32) : Option (Int32 × Hp) := gd (t0 &&& 1 = t0) <| some (t0, h)
def sX11_isPlace_23 (h : Hp) : Option (Int32 × Hp) := sX11_isPlace_24  h (0 : Int32)
def sX11_isPlace (h : Hp) (x0 : Nat) (x1 : Int32) : Option (Int32 × Hp) := br (x1 < 0) (sX11_isPlace_23  h ) (br ((60 : Int32) ≤ x1) (sX11_isPlace_23  h ) (cl (hR h x0 14) fun r_3 => gd (inB x1 (hN h r_3)) <| br ((hI h r_3 x1.toNatClampNeg) = 0) (sX11_isPlace_23  h ) (sX11_isPlace_24  h (1 : Int32))))
set_option maxRecDepth 20000 in
theorem moX11_isPlace_24 {o : Int32 × Hp} {h : Hp} {t0 : Int32} (hE : sX11_isPlace_24 h  t0 = some o) : Le h o.2 := by
  obtain ⟨g_1, hE⟩ := gd_e hE
  cases hE
  exact Le.rf _
set_option maxRecDepth 20000 in
theorem moX11_isPlace_23 {o : Int32 × Hp} {h : Hp} (hE : sX11_isPlace_23 h  = some o) : Le h o.2 := by
  exact moX11_isPlace_24 hE
set_option maxRecDepth 20000 in
theorem moX11_isPlace {o : Int32 × Hp} {h : Hp} {x0 : Nat} {x1 : Int32} (hE : sX11_isPlace h x0 x1 = some o) : Le h o.2 := by
  rcases br_e hE with ⟨_, hE⟩ | ⟨_, hE⟩
  · exact moX11_isPlace_23 hE
  · rcases br_e hE with ⟨_, hE⟩ | ⟨_, hE⟩
    · exact moX11_isPlace_23 hE
    · obtain ⟨r_3, er_3, hE⟩ := cl_e hE
      obtain ⟨g_4, hE⟩ := gd_e hE
      rcases br_e hE with ⟨_, hE⟩ | ⟨_, hE⟩
      · exact moX11_isPlace_23 hE
      · exact moX11_isPlace_24 hE
set_option maxRecDepth 20000 in
theorem bX11_isPlace_24 {p : Program} {l : Launch} {e : Env} {s : State} {m : MethodId} {args : Array Value} {below : List Frame} {meth : Method} {c : Code} {X : Ec} {h0 : Hp} {o : Int32 × Hp} (C : Cx X p s m args meth c RX11 cX11_isPlace 2 (some .boolean) "isPlace") {h : Hp} {t0 : Int32} {H : Heap} {locs : List Loc} (hkm : Km h0 h) (hW : Wx X h H) (hZ : va_S (aA (eB X)) s.heap H locs) (ls : Array Slot) (hl : lv_has ls 2 []) (hE : sX11_isPlace_24 h  t0 = some o) : W p l e (rm 0 0) s m args below meth c H locs 0 0 (MQ below (QI X h0 o.1 o.2) args s 0 0 (aA (eB X))) (F0 m 24 ls [.int t0]) := by
  obtain ⟨g_1, hE⟩ := gd_e hE
  exact x_iret C rfl (narB g_1) hW hZ hkm hE dX11_isPlace_24
set_option maxRecDepth 20000 in
theorem bX11_isPlace_23 {p : Program} {l : Launch} {e : Env} {s : State} {m : MethodId} {args : Array Value} {below : List Frame} {meth : Method} {c : Code} {X : Ec} {h0 : Hp} {o : Int32 × Hp} (C : Cx X p s m args meth c RX11 cX11_isPlace 2 (some .boolean) "isPlace") {h : Hp} {H : Heap} {locs : List Loc} (hkm : Km h0 h) (hW : Wx X h H) (hZ : va_S (aA (eB X)) s.heap H locs) (ls : Array Slot) (hl : lv_has ls 2 []) (hE : sX11_isPlace_23 h  = some o) : W p l e (rm 0 0) s m args below meth c H locs 0 0 (MQ below (QI X h0 o.1 o.2) args s 0 0 (aA (eB X))) (F0 m 23 ls []) := by
  refine lv_iconst (v := (0 : Int32)) C.1 C.2.1 dX11_isPlace_23 (by decide) ?_
  exact bX11_isPlace_24 C hkm hW hZ _ (lv_sub hl [] rfl) hE
set_option maxRecDepth 20000 in
theorem ct_X11_isPlace (l : Launch) (X : Ec) {h : Hp} {x0 : Nat} {x1 : Int32} {o : Int32 × Hp} (k_x0 : hK h x0 = 11) (hE : sX11_isPlace h x0 x1 = some o) : MetI l yX11_isPlace cX11_isPlace 2 (some .boolean) 0 0 X [.ref x0, .int x1] h o := by
  refine x_met (by decide) (Nat.le_of_ble_eq_true rfl) ?_
  intro p e s m below meth c ls C hl hW hZ
  have hl : lv_has ls 2 [(0, .ref x0), (1, .int x1)] := hl
  have hkm : Km h h := Km.rf h
  refine lv_iload_n C.1 C.2.1 dX11_isPlace_0 rfl (lv_at hl 1 rfl) ?_
  refine lv_if_lt (tgt := 23) C.1 C.2.1 dX11_isPlace_1 (by decide) (fun c_1 => ?_) (fun c_1 => ?_)
  · have hE := br_p hE c_1
    exact bX11_isPlace_23 C hkm hW hZ _ (lv_sub hl [] rfl) hE
  · have hE := br_n hE c_1
    refine lv_iload_n C.1 C.2.1 dX11_isPlace_4 rfl (lv_at hl 1 rfl) ?_
    refine lv_bipush (v := (60 : Int32)) C.1 C.2.1 dX11_isPlace_5 (by decide) ?_
    refine lv_icmp_ge (tgt := 23) C.1 C.2.1 dX11_isPlace_7 (by decide) (fun c_2 => ?_) (fun c_2 => ?_)
    · have hE := br_p hE c_2
      exact bX11_isPlace_23 C hkm hW hZ _ (lv_sub hl [] rfl) hE
    · have hE := br_n hE c_2
      refine lv_aload_n C.1 C.2.1 dX11_isPlace_10 rfl (lv_at hl 0 rfl) ?_
      obtain ⟨r_3, er_3, hE⟩ := cl_e hE
      refine gf_X11_107 C hW k_x0 er_3 dX11_isPlace_11 (fun k_r_3 => ?_)
      refine lv_iload_n C.1 C.2.1 dX11_isPlace_14 rfl (lv_at hl 1 rfl) ?_
      obtain ⟨g_4, hE⟩ := gd_e hE
      refine y_zald C hW k_r_3 g_4 dX11_isPlace_15 ?_
      refine lv_if_eq (tgt := 23) C.1 C.2.1 dX11_isPlace_16 (by decide) (fun c_5 => ?_) (fun c_5 => ?_)
      · have hE := br_p hE c_5
        exact bX11_isPlace_23 C hkm hW hZ _ (lv_sub hl [] rfl) hE
      · have hE := br_n hE c_5
        refine lv_iconst (v := (1 : Int32)) C.1 C.2.1 dX11_isPlace_19 (by decide) ?_
        refine lv_goto (tgt := 24) C.1 C.2.1 dX11_isPlace_20 (by decide) ?_
        exact bX11_isPlace_24 C hkm hW hZ _ (lv_sub hl [] rfl) hE
theorem ms_44 : Cond.selects RX11 yX11_isPlace yX11_isPlace ∈ W0 := w0_in (List.mem_append_left _ (List.mem_of_getElem? (i := 44) (by decide +kernel))) rfl
theorem m_1103 : Cond.methodLink RX11 193 yX11_isPlace ∈ W0 := w0_in (List.mem_append_right _ (List.mem_of_getElem? (i := 1103) (by decide +kernel))) rfl
theorem m_1105 : Cond.instanceMethod yX11_isPlace ∈ W0 := w0_in (List.mem_append_right _ (List.mem_of_getElem? (i := 1105) (by decide +kernel))) rfl
theorem m_1106 : Cond.code yX11_isPlace cX11_isPlace 2 (some .boolean) ∈ W0 := w0_in (List.mem_append_right _ (List.mem_of_getElem? (i := 1106) (by decide +kernel))) rfl
theorem cw_X11_193 : cwd RX11 193 yX11_isPlace cX11_isPlace 2 (some .boolean) false 1 := ⟨m_1106, m_1103, m_1, ⟨m_1105, ms_44⟩, by decide, by decide, by decide +kernel⟩
theorem dX11_drop_0 : decode cX11_drop 0 = .ok (.aload_n 0, 1) := by decide +kernel
theorem dX11_drop_1 : decode cX11_drop 1 = .ok (.iload_n 1, 1) := by decide +kernel
theorem dX11_drop_2 : decode cX11_drop 2 = .ok (.invokevirtual 193, 3) := by decide +kernel
theorem dX11_drop_5 : decode cX11_drop 5 = .ok (.ifCond .ne 6, 3) := by decide +kernel
theorem dX11_drop_8 : decode cX11_drop 8 = .ok (.bipush (-102), 2) := by decide +kernel
theorem dX11_drop_10 : decode cX11_drop 10 = .ok (.ireturn, 1) := by decide +kernel
theorem dX11_drop_11 : decode cX11_drop 11 = .ok (.aload_n 0, 1) := by decide +kernel
theorem dX11_drop_12 : decode cX11_drop 12 = .ok (.getfield 107, 3) := by decide +kernel
theorem dX11_drop_15 : decode cX11_drop 15 = .ok (.iload_n 1, 1) := by decide +kernel
theorem dX11_drop_16 : decode cX11_drop 16 = .ok (.iconst 0, 1) := by decide +kernel
theorem dX11_drop_17 : decode cX11_drop 17 = .ok (.bastore, 1) := by decide +kernel
theorem dX11_drop_18 : decode cX11_drop 18 = .ok (.aload_n 0, 1) := by decide +kernel
theorem dX11_drop_19 : decode cX11_drop 19 = .ok (.getfield 93, 3) := by decide +kernel
theorem dX11_drop_22 : decode cX11_drop 22 = .ok (.iload_n 1, 1) := by decide +kernel
theorem dX11_drop_23 : decode cX11_drop 23 = .ok (.invokevirtual 197, 3) := by decide +kernel
theorem dX11_drop_26 : decode cX11_drop 26 = .ok (.iconst 1, 1) := by decide +kernel
theorem dX11_drop_27 : decode cX11_drop 27 = .ok (.ireturn, 1) := by decide +kernel
def sX11_drop (h : Hp) (x0 : Nat) (x1 : Int32) : Option (Int32 × Hp) := cl (sX11_isPlace h x0 x1) fun o_1 => br (o_1.1 = 0) (some ((-102 : Int32), o_1.2)) (cl (hR o_1.2 x0 14) fun r_3 => gd (inB x1 (hN o_1.2 r_3)) <| nm (wI o_1.2 r_3 x1.toNatClampNeg (vp_nar .boolean (0 : Int32))) fun h_5 => cl (hR h_5 x0 11) fun r_6 => cl (sX4_forget h_5 r_6 x1) fun o_7 => some ((1 : Int32), o_7))
set_option maxRecDepth 20000 in
theorem ct_X11_drop (l : Launch) (X : Ec) {h : Hp} {x0 : Nat} {x1 : Int32} {o : Int32 × Hp} (k_x0 : hK h x0 = 11) (hE : sX11_drop h x0 x1 = some o) : MetI l yX11_drop cX11_drop 2 (some .int) 1 21 X [.ref x0, .int x1] h o := by
  refine x_met (by decide) (Nat.le_of_ble_eq_true rfl) ?_
  intro p e s m below meth c ls C hl hW hZ
  have hl : lv_has ls 2 [(0, .ref x0), (1, .int x1)] := hl
  have hkm : Km h h := Km.rf h
  refine lv_aload_n C.1 C.2.1 dX11_drop_0 rfl (lv_at hl 0 rfl) ?_
  refine lv_iload_n C.1 C.2.1 dX11_drop_1 rfl (lv_at hl 1 rfl) ?_
  obtain ⟨o_1, eo_1, hE⟩ := cl_e hE
  refine x_kI (o := o_1) (z_runV (As := [.int x1]) (rest := []) C (ct_X11_isPlace l X k_x0 eo_1) cw_X11_193 hW hZ k_x0 (by decide) rfl rfl rfl hl.1 (Nat.le_of_ble_eq_true rfl) rfl dX11_drop_2 ⟨Nat.le_of_ble_eq_true rfl, Nat.le_of_ble_eq_true rfl⟩ ⟨Nat.le_refl _, Nat.le_refl _⟩) hZ (fun _ _ hW km hZ => ?_)
  replace hkm := hkm.tr km
  replace k_x0 := km.at k_x0 (by decide)
  refine lv_if_ne (tgt := 11) C.1 C.2.1 dX11_drop_5 (by decide) (fun c_2 => ?_) (fun c_2 => ?_)
  · have hE := br_n hE c_2
    refine lv_aload_n C.1 C.2.1 dX11_drop_11 rfl (lv_at hl 0 rfl) ?_
    obtain ⟨r_3, er_3, hE⟩ := cl_e hE
    refine gf_X11_107 C hW k_x0 er_3 dX11_drop_12 (fun k_r_3 => ?_)
    refine lv_iload_n C.1 C.2.1 dX11_drop_15 rfl (lv_at hl 1 rfl) ?_
    refine lv_iconst (v := (0 : Int32)) C.1 C.2.1 dX11_drop_16 (by decide) ?_
    obtain ⟨g_4, hE⟩ := gd_e hE
    obtain ⟨h_5, eh_5, hE⟩ := nm_e2 hE
    refine y_zast C hW hZ k_r_3 g_4 eh_5 dX11_drop_17 (fun _ _ hW km hZ => ?_)
    replace hkm := hkm.tr km
    replace k_x0 := km.at k_x0 (by decide)
    refine lv_aload_n C.1 C.2.1 dX11_drop_18 rfl (lv_at hl 0 rfl) ?_
    obtain ⟨r_6, er_6, hE⟩ := cl_e hE
    refine gf_X11_93 C hW k_x0 er_6 dX11_drop_19 (fun k_r_6 => ?_)
    refine lv_iload_n C.1 C.2.1 dX11_drop_22 rfl (lv_at hl 1 rfl) ?_
    obtain ⟨o_7, eo_7, hE⟩ := cl_e hE
    refine x_kV (o := o_7) (z_runV (As := [.int x1]) (rest := []) C (ct_X4_forget l X k_r_6 eo_7) cw_X11_197 hW hZ k_r_6 (by decide) rfl rfl rfl hl.1 (Nat.le_of_ble_eq_true rfl) rfl dX11_drop_23 ⟨Nat.le_of_ble_eq_true rfl, Nat.le_of_ble_eq_true rfl⟩ ⟨Nat.le_refl _, Nat.le_refl _⟩) hZ (fun _ _ hW km hZ => ?_)
    replace hkm := hkm.tr km
    replace k_x0 := km.at k_x0 (by decide)
    refine lv_iconst (v := (1 : Int32)) C.1 C.2.1 dX11_drop_26 (by decide) ?_
    exact x_iret C rfl rfl hW hZ hkm hE dX11_drop_27
  · have hE := br_p hE c_2
    refine lv_bipush (v := (-102 : Int32)) C.1 C.2.1 dX11_drop_8 (by decide) ?_
    exact x_iret C rfl rfl hW hZ hkm hE dX11_drop_10
theorem m_1111 : Cond.methodLink RX11 200 yX7_writeAll ∈ W0 := w0_in (List.mem_append_right _ (List.mem_of_getElem? (i := 1111) (by decide +kernel))) rfl
theorem m_1112 : Cond.instanceMethod yX7_writeAll ∈ W0 := w0_in (List.mem_append_right _ (List.mem_of_getElem? (i := 1112) (by decide +kernel))) rfl
theorem m_1113 : Cond.selects RX7 yX7_writeAll yX7_writeAll ∈ W0 := w0_in (List.mem_append_right _ (List.mem_of_getElem? (i := 1113) (by decide +kernel))) rfl
theorem m_1114 : Cond.code yX7_writeAll cX7_writeAll 3 none ∈ W0 := w0_in (List.mem_append_right _ (List.mem_of_getElem? (i := 1114) (by decide +kernel))) rfl
theorem cw_X11_200 : cwd RX11 200 yX7_writeAll cX7_writeAll 3 none false 2 := ⟨m_1114, m_1111, m_10, ⟨m_1112, m_1113⟩, by decide, by decide, by decide +kernel⟩
theorem dX11_write_0 : decode cX11_write 0 = .ok (.aload_n 0, 1) := by decide +kernel
theorem dX11_write_1 : decode cX11_write 1 = .ok (.iload_n 1, 1) := by decide +kernel
theorem dX11_write_2 : decode cX11_write 2 = .ok (.invokevirtual 193, 3) := by decide +kernel
theorem dX11_write_5 : decode cX11_write 5 = .ok (.ifCond .ne 6, 3) := by decide +kernel
theorem dX11_write_8 : decode cX11_write 8 = .ok (.bipush (-102), 2) := by decide +kernel
theorem dX11_write_10 : decode cX11_write 10 = .ok (.ireturn, 1) := by decide +kernel
theorem dX11_write_11 : decode cX11_write 11 = .ok (.aload_n 0, 1) := by decide +kernel
theorem dX11_write_12 : decode cX11_write 12 = .ok (.getfield 18, 3) := by decide +kernel
theorem dX11_write_15 : decode cX11_write 15 = .ok (.invokevirtual 144, 3) := by decide +kernel
theorem dX11_write_18 : decode cX11_write 18 = .ok (.aload_n 0, 1) := by decide +kernel
theorem dX11_write_19 : decode cX11_write 19 = .ok (.getfield 59, 3) := by decide +kernel
theorem dX11_write_22 : decode cX11_write 22 = .ok (.aload_n 0, 1) := by decide +kernel
theorem dX11_write_23 : decode cX11_write 23 = .ok (.getfield 103, 3) := by decide +kernel
theorem dX11_write_26 : decode cX11_write 26 = .ok (.iload_n 1, 1) := by decide +kernel
theorem dX11_write_27 : decode cX11_write 27 = .ok (.aaload, 1) := by decide +kernel
theorem dX11_write_28 : decode cX11_write 28 = .ok (.aload_n 0, 1) := by decide +kernel
theorem dX11_write_29 : decode cX11_write 29 = .ok (.getfield 18, 3) := by decide +kernel
theorem dX11_write_32 : decode cX11_write 32 = .ok (.invokevirtual 200, 3) := by decide +kernel
theorem dX11_write_35 : decode cX11_write 35 = .ok (.aload_n 0, 1) := by decide +kernel
theorem dX11_write_36 : decode cX11_write 36 = .ok (.getfield 18, 3) := by decide +kernel
theorem dX11_write_39 : decode cX11_write 39 = .ok (.getfield 147, 3) := by decide +kernel
theorem dX11_write_42 : decode cX11_write 42 = .ok (.ireturn, 1) := by decide +kernel
def sX11_write (F : Nat) (h : Hp) (x0 : Nat) (x1 : Int32) : Option (Int32 × Hp) := cl (sX11_isPlace h x0 x1) fun o_1 => br (o_1.1 = 0) (some ((-102 : Int32), o_1.2)) (cl (hR o_1.2 x0 1) fun r_3 => cl (sX9_clear o_1.2 r_3) fun o_4 => cl (hR o_4 x0 7) fun r_5 => cl (hR o_4 x0 13) fun r_6 => gd (inB x1 (hN o_4 r_6)) <| cl (hR o_4 r_6 x1.toNatClampNeg) fun r_8 => cl (hR o_4 x0 1) fun r_9 => cl (sX7_writeAll F o_4 r_5 r_8 r_9) fun o_10 => cl (hR o_10 x0 1) fun r_11 => some (hI o_10 r_11 1, o_10))
set_option maxRecDepth 20000 in
theorem ct_X11_write (l : Launch) (X : Ec) (F : Nat) {h : Hp} {x0 : Nat} {x1 : Int32} {o : Int32 × Hp} (k_x0 : hK h x0 = 11) (hE : sX11_write F h x0 x1 = some o) : MetI l yX11_write cX11_write 2 (some .int) 4 93 X [.ref x0, .int x1] h o := by
  refine x_met (by decide) (Nat.le_of_ble_eq_true rfl) ?_
  intro p e s m below meth c ls C hl hW hZ
  have hl : lv_has ls 2 [(0, .ref x0), (1, .int x1)] := hl
  have hkm : Km h h := Km.rf h
  refine lv_aload_n C.1 C.2.1 dX11_write_0 rfl (lv_at hl 0 rfl) ?_
  refine lv_iload_n C.1 C.2.1 dX11_write_1 rfl (lv_at hl 1 rfl) ?_
  obtain ⟨o_1, eo_1, hE⟩ := cl_e hE
  refine x_kI (o := o_1) (z_runV (As := [.int x1]) (rest := []) C (ct_X11_isPlace l X k_x0 eo_1) cw_X11_193 hW hZ k_x0 (by decide) rfl rfl rfl hl.1 (Nat.le_of_ble_eq_true rfl) rfl dX11_write_2 ⟨Nat.le_of_ble_eq_true rfl, Nat.le_of_ble_eq_true rfl⟩ ⟨Nat.le_refl _, Nat.le_refl _⟩) hZ (fun _ _ hW km hZ => ?_)
  replace hkm := hkm.tr km
  replace k_x0 := km.at k_x0 (by decide)
  refine lv_if_ne (tgt := 11) C.1 C.2.1 dX11_write_5 (by decide) (fun c_2 => ?_) (fun c_2 => ?_)
  · have hE := br_n hE c_2
    refine lv_aload_n C.1 C.2.1 dX11_write_11 rfl (lv_at hl 0 rfl) ?_
    obtain ⟨r_3, er_3, hE⟩ := cl_e hE
    refine gf_X11_18 C hW k_x0 er_3 dX11_write_12 (fun k_r_3 => ?_)
    obtain ⟨o_4, eo_4, hE⟩ := cl_e hE
    refine x_kV (o := o_4) (z_runV (As := []) (rest := []) C (ct_X9_clear l X k_r_3 eo_4) cw_X11_144 hW hZ k_r_3 (by decide) rfl rfl rfl hl.1 (Nat.le_of_ble_eq_true rfl) rfl dX11_write_15 ⟨Nat.le_of_ble_eq_true rfl, Nat.le_of_ble_eq_true rfl⟩ ⟨Nat.le_refl _, Nat.le_refl _⟩) hZ (fun _ _ hW km hZ => ?_)
    replace hkm := hkm.tr km
    replace k_x0 := km.at k_x0 (by decide)
    refine lv_aload_n C.1 C.2.1 dX11_write_18 rfl (lv_at hl 0 rfl) ?_
    obtain ⟨r_5, er_5, hE⟩ := cl_e hE
    refine gf_X11_59 C hW k_x0 er_5 dX11_write_19 (fun k_r_5 => ?_)
    refine lv_aload_n C.1 C.2.1 dX11_write_22 rfl (lv_at hl 0 rfl) ?_
    obtain ⟨r_6, er_6, hE⟩ := cl_e hE
    refine gf_X11_103 C hW k_x0 er_6 dX11_write_23 (fun k_r_6 => ?_)
    refine lv_iload_n C.1 C.2.1 dX11_write_26 rfl (lv_at hl 1 rfl) ?_
    obtain ⟨g_7, hE⟩ := gd_e hE
    obtain ⟨r_8, er_8, hE⟩ := cl_e hE
    refine y_aald (t0 := 4) C hW k_r_6 (by decide) (by decide) rfl rfl rfl (fun _ => rfl) g_7 er_8 dX11_write_27 (fun k_r_8 => ?_)
    refine lv_aload_n C.1 C.2.1 dX11_write_28 rfl (lv_at hl 0 rfl) ?_
    obtain ⟨r_9, er_9, hE⟩ := cl_e hE
    refine gf_X11_18 C hW k_x0 er_9 dX11_write_29 (fun k_r_9 => ?_)
    obtain ⟨o_10, eo_10, hE⟩ := cl_e hE
    refine x_kV (o := o_10) (z_runV (As := [.ref r_8, .ref r_9]) (rest := []) C (ct_X7_writeAll l X F k_r_5 k_r_8 k_r_9 eo_10) cw_X11_200 hW hZ k_r_5 (by decide) rfl rfl rfl hl.1 (Nat.le_of_ble_eq_true rfl) rfl dX11_write_32 ⟨Nat.le_of_ble_eq_true rfl, Nat.le_of_ble_eq_true rfl⟩ ⟨Nat.le_refl _, Nat.le_refl _⟩) hZ (fun _ _ hW km hZ => ?_)
    replace hkm := hkm.tr km
    replace k_x0 := km.at k_x0 (by decide)
    refine lv_aload_n C.1 C.2.1 dX11_write_35 rfl (lv_at hl 0 rfl) ?_
    obtain ⟨r_11, er_11, hE⟩ := cl_e hE
    refine gf_X11_18 C hW k_x0 er_11 dX11_write_36 (fun k_r_11 => ?_)
    refine gf_X11_147 C hW k_r_11 dX11_write_39 ?_
    exact x_iret C rfl rfl hW hZ hkm hE dX11_write_42
  · have hE := br_p hE c_2
    refine lv_bipush (v := (-102 : Int32)) C.1 C.2.1 dX11_write_8 (by decide) ?_
    exact x_iret C rfl rfl hW hZ hkm hE dX11_write_10
theorem m_1152 : Cond.methodLink RX11 204 yX5_areAlike ∈ W0 := w0_in (List.mem_append_right _ (List.mem_of_getElem? (i := 1152) (by decide +kernel))) rfl
theorem m_1153 : Cond.instanceMethod yX5_areAlike ∈ W0 := w0_in (List.mem_append_right _ (List.mem_of_getElem? (i := 1153) (by decide +kernel))) rfl
theorem m_1154 : Cond.selects RX5 yX5_areAlike yX5_areAlike ∈ W0 := w0_in (List.mem_append_right _ (List.mem_of_getElem? (i := 1154) (by decide +kernel))) rfl
theorem m_1155 : Cond.code yX5_areAlike cX5_areAlike 4 (some .boolean) ∈ W0 := w0_in (List.mem_append_right _ (List.mem_of_getElem? (i := 1155) (by decide +kernel))) rfl
theorem cw_X11_204 : cwd RX11 204 yX5_areAlike cX5_areAlike 4 (some .boolean) false 2 := ⟨m_1155, m_1152, m_7, ⟨m_1153, m_1154⟩, by decide, by decide, by decide +kernel⟩
theorem dX11_same_0 : decode cX11_same 0 = .ok (.aload_n 0, 1) := by decide +kernel
theorem dX11_same_1 : decode cX11_same 1 = .ok (.iload_n 1, 1) := by decide +kernel
theorem dX11_same_2 : decode cX11_same 2 = .ok (.invokevirtual 193, 3) := by decide +kernel
theorem dX11_same_5 : decode cX11_same 5 = .ok (.ifCond .eq 37, 3) := by decide +kernel
theorem dX11_same_8 : decode cX11_same 8 = .ok (.aload_n 0, 1) := by decide +kernel
theorem dX11_same_9 : decode cX11_same 9 = .ok (.iload_n 2, 1) := by decide +kernel
theorem dX11_same_10 : decode cX11_same 10 = .ok (.invokevirtual 193, 3) := by decide +kernel
theorem dX11_same_13 : decode cX11_same 13 = .ok (.ifCond .eq 29, 3) := by decide +kernel
theorem dX11_same_16 : decode cX11_same 16 = .ok (.aload_n 0, 1) := by decide +kernel
theorem dX11_same_17 : decode cX11_same 17 = .ok (.getfield 50, 3) := by decide +kernel
theorem dX11_same_20 : decode cX11_same 20 = .ok (.aload_n 0, 1) := by decide +kernel
theorem dX11_same_21 : decode cX11_same 21 = .ok (.getfield 103, 3) := by decide +kernel
theorem dX11_same_24 : decode cX11_same 24 = .ok (.iload_n 1, 1) := by decide +kernel
theorem dX11_same_25 : decode cX11_same 25 = .ok (.aaload, 1) := by decide +kernel
theorem dX11_same_26 : decode cX11_same 26 = .ok (.aload_n 0, 1) := by decide +kernel
theorem dX11_same_27 : decode cX11_same 27 = .ok (.getfield 103, 3) := by decide +kernel
theorem dX11_same_30 : decode cX11_same 30 = .ok (.iload_n 2, 1) := by decide +kernel
theorem dX11_same_31 : decode cX11_same 31 = .ok (.aaload, 1) := by decide +kernel
theorem dX11_same_32 : decode cX11_same 32 = .ok (.invokevirtual 204, 3) := by decide +kernel
theorem dX11_same_35 : decode cX11_same 35 = .ok (.ifCond .eq 7, 3) := by decide +kernel
theorem dX11_same_38 : decode cX11_same 38 = .ok (.iconst 1, 1) := by decide +kernel
theorem dX11_same_39 : decode cX11_same 39 = .ok (.goto 4, 3) := by decide +kernel
theorem dX11_same_42 : decode cX11_same 42 = .ok (.iconst 0, 1) := by decide +kernel
theorem dX11_same_43 : decode cX11_same 43 = .ok (.ireturn, 1) := by decide +kernel
def sX11_same_43 (F : Nat) (h : Hp) (t0 : Int32) : Option (Int32 × Hp) := gd (t0 &&& 1 = t0) <| some (t0, h)
def sX11_same_42 (F : Nat) (h : Hp) : Option (Int32 × Hp) := sX11_same_43 F h (0 : Int32)
def sX11_same (F : Nat) (h : Hp) (x0 : Nat) (x1 : Int32) (x2 : Int32) : Option (Int32 × Hp) := cl (sX11_isPlace h x0 x1) fun o_1 => br (o_1.1 = 0) (sX11_same_42 F o_1.2 ) (cl (sX11_isPlace o_1.2 x0 x2) fun o_3 => br (o_3.1 = 0) (sX11_same_42 F o_3.2 ) (cl (hR o_3.2 x0 6) fun r_5 => cl (hR o_3.2 x0 13) fun r_6 => gd (inB x1 (hN o_3.2 r_6)) <| cl (hR o_3.2 r_6 x1.toNatClampNeg) fun r_8 => cl (hR o_3.2 x0 13) fun r_9 => gd (inB x2 (hN o_3.2 r_9)) <| cl (hR o_3.2 r_9 x2.toNatClampNeg) fun r_11 => cl (sX5_areAlike F o_3.2 r_5 r_8 r_11) fun o_12 => br (o_12.1 = 0) (sX11_same_42 F o_12.2 ) (sX11_same_43 F o_12.2 (1 : Int32))))
set_option maxRecDepth 20000 in
theorem bX11_same_43 {p : Program} {l : Launch} {e : Env} {s : State} {m : MethodId} {args : Array Value} {below : List Frame} {meth : Method} {c : Code} {X : Ec} {h0 : Hp} {o : Int32 × Hp} {F : Nat} (C : Cx X p s m args meth c RX11 cX11_same 3 (some .boolean) "same") {h : Hp} {t0 : Int32} {H : Heap} {locs : List Loc} (hkm : Km h0 h) (hW : Wx X h H) (hZ : va_S (aA (eB X)) s.heap H locs) (ls : Array Slot) (hl : lv_has ls 3 []) (hE : sX11_same_43 F h  t0 = some o) : W p l e (rm 6 185) s m args below meth c H locs 0 0 (MQ below (QI X h0 o.1 o.2) args s 0 0 (aA (eB X))) (F0 m 43 ls [.int t0]) := by
  obtain ⟨g_1, hE⟩ := gd_e hE
  exact x_iret C rfl (narB g_1) hW hZ hkm hE dX11_same_43
set_option maxRecDepth 20000 in
theorem bX11_same_42 {p : Program} {l : Launch} {e : Env} {s : State} {m : MethodId} {args : Array Value} {below : List Frame} {meth : Method} {c : Code} {X : Ec} {h0 : Hp} {o : Int32 × Hp} {F : Nat} (C : Cx X p s m args meth c RX11 cX11_same 3 (some .boolean) "same") {h : Hp} {H : Heap} {locs : List Loc} (hkm : Km h0 h) (hW : Wx X h H) (hZ : va_S (aA (eB X)) s.heap H locs) (ls : Array Slot) (hl : lv_has ls 3 []) (hE : sX11_same_42 F h  = some o) : W p l e (rm 6 185) s m args below meth c H locs 0 0 (MQ below (QI X h0 o.1 o.2) args s 0 0 (aA (eB X))) (F0 m 42 ls []) := by
  refine lv_iconst (v := (0 : Int32)) C.1 C.2.1 dX11_same_42 (by decide) ?_
  exact bX11_same_43 C hkm hW hZ _ (lv_sub hl [] rfl) hE
set_option maxRecDepth 20000 in
theorem ct_X11_same (l : Launch) (X : Ec) (F : Nat) {h : Hp} {x0 : Nat} {x1 : Int32} {x2 : Int32} {o : Int32 × Hp} (k_x0 : hK h x0 = 11) (hE : sX11_same F h x0 x1 x2 = some o) : MetI l yX11_same cX11_same 3 (some .boolean) 6 185 X [.ref x0, .int x1, .int x2] h o := by
  refine x_met (by decide) (Nat.le_of_ble_eq_true rfl) ?_
  intro p e s m below meth c ls C hl hW hZ
  have hl : lv_has ls 3 [(0, .ref x0), (1, .int x1), (2, .int x2)] := hl
  have hkm : Km h h := Km.rf h
  refine lv_aload_n C.1 C.2.1 dX11_same_0 rfl (lv_at hl 0 rfl) ?_
  refine lv_iload_n C.1 C.2.1 dX11_same_1 rfl (lv_at hl 1 rfl) ?_
  obtain ⟨o_1, eo_1, hE⟩ := cl_e hE
  refine x_kI (o := o_1) (z_runV (As := [.int x1]) (rest := []) C (ct_X11_isPlace l X k_x0 eo_1) cw_X11_193 hW hZ k_x0 (by decide) rfl rfl rfl hl.1 (Nat.le_of_ble_eq_true rfl) rfl dX11_same_2 ⟨Nat.le_of_ble_eq_true rfl, Nat.le_of_ble_eq_true rfl⟩ ⟨Nat.le_refl _, Nat.le_refl _⟩) hZ (fun _ _ hW km hZ => ?_)
  replace hkm := hkm.tr km
  replace k_x0 := km.at k_x0 (by decide)
  refine lv_if_eq (tgt := 42) C.1 C.2.1 dX11_same_5 (by decide) (fun c_2 => ?_) (fun c_2 => ?_)
  · have hE := br_p hE c_2
    exact bX11_same_42 C hkm hW hZ _ (lv_sub hl [] rfl) hE
  · have hE := br_n hE c_2
    refine lv_aload_n C.1 C.2.1 dX11_same_8 rfl (lv_at hl 0 rfl) ?_
    refine lv_iload_n C.1 C.2.1 dX11_same_9 rfl (lv_at hl 2 rfl) ?_
    obtain ⟨o_3, eo_3, hE⟩ := cl_e hE
    refine x_kI (o := o_3) (z_runV (As := [.int x2]) (rest := []) C (ct_X11_isPlace l X k_x0 eo_3) cw_X11_193 hW hZ k_x0 (by decide) rfl rfl rfl hl.1 (Nat.le_of_ble_eq_true rfl) rfl dX11_same_10 ⟨Nat.le_of_ble_eq_true rfl, Nat.le_of_ble_eq_true rfl⟩ ⟨Nat.le_refl _, Nat.le_refl _⟩) hZ (fun _ _ hW km hZ => ?_)
    replace hkm := hkm.tr km
    replace k_x0 := km.at k_x0 (by decide)
    refine lv_if_eq (tgt := 42) C.1 C.2.1 dX11_same_13 (by decide) (fun c_4 => ?_) (fun c_4 => ?_)
    · have hE := br_p hE c_4
      exact bX11_same_42 C hkm hW hZ _ (lv_sub hl [] rfl) hE
    · have hE := br_n hE c_4
      refine lv_aload_n C.1 C.2.1 dX11_same_16 rfl (lv_at hl 0 rfl) ?_
      obtain ⟨r_5, er_5, hE⟩ := cl_e hE
      refine gf_X11_50 C hW k_x0 er_5 dX11_same_17 (fun k_r_5 => ?_)
      refine lv_aload_n C.1 C.2.1 dX11_same_20 rfl (lv_at hl 0 rfl) ?_
      obtain ⟨r_6, er_6, hE⟩ := cl_e hE
      refine gf_X11_103 C hW k_x0 er_6 dX11_same_21 (fun k_r_6 => ?_)
      refine lv_iload_n C.1 C.2.1 dX11_same_24 rfl (lv_at hl 1 rfl) ?_
      obtain ⟨g_7, hE⟩ := gd_e hE
      obtain ⟨r_8, er_8, hE⟩ := cl_e hE
      refine y_aald (t0 := 4) C hW k_r_6 (by decide) (by decide) rfl rfl rfl (fun _ => rfl) g_7 er_8 dX11_same_25 (fun k_r_8 => ?_)
      refine lv_aload_n C.1 C.2.1 dX11_same_26 rfl (lv_at hl 0 rfl) ?_
      obtain ⟨r_9, er_9, hE⟩ := cl_e hE
      refine gf_X11_103 C hW k_x0 er_9 dX11_same_27 (fun k_r_9 => ?_)
      refine lv_iload_n C.1 C.2.1 dX11_same_30 rfl (lv_at hl 2 rfl) ?_
      obtain ⟨g_10, hE⟩ := gd_e hE
      obtain ⟨r_11, er_11, hE⟩ := cl_e hE
      refine y_aald (t0 := 4) C hW k_r_9 (by decide) (by decide) rfl rfl rfl (fun _ => rfl) g_10 er_11 dX11_same_31 (fun k_r_11 => ?_)
      obtain ⟨o_12, eo_12, hE⟩ := cl_e hE
      refine x_kI (o := o_12) (z_runV (As := [.ref r_8, .ref r_11]) (rest := []) C (ct_X5_areAlike l X F k_r_5 k_r_8 k_r_11 eo_12) cw_X11_204 hW hZ k_r_5 (by decide) rfl rfl rfl hl.1 (Nat.le_of_ble_eq_true rfl) rfl dX11_same_32 ⟨Nat.le_of_ble_eq_true rfl, Nat.le_of_ble_eq_true rfl⟩ ⟨Nat.le_refl _, Nat.le_refl _⟩) hZ (fun _ _ hW km hZ => ?_)
      replace hkm := hkm.tr km
      replace k_x0 := km.at k_x0 (by decide)
      refine lv_if_eq (tgt := 42) C.1 C.2.1 dX11_same_35 (by decide) (fun c_13 => ?_) (fun c_13 => ?_)
      · have hE := br_p hE c_13
        exact bX11_same_42 C hkm hW hZ _ (lv_sub hl [] rfl) hE
      · have hE := br_n hE c_13
        refine lv_iconst (v := (1 : Int32)) C.1 C.2.1 dX11_same_38 (by decide) ?_
        refine lv_goto (tgt := 43) C.1 C.2.1 dX11_same_39 (by decide) ?_
        exact bX11_same_43 C hkm hW hZ _ (lv_sub hl [] rfl) hE
