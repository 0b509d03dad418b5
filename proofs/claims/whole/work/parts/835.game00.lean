set_option maxRecDepth 100000 in
theorem m_31 : Cond.methodLink RX11 3 objectInit ∈ W0 := w0_in (List.mem_append_right _ (List.mem_of_getElem? (i := 31) rfl)) rfl
set_option maxRecDepth 100000 in
theorem m_34 : Cond.classLink RX11 9 RX9 ∈ W0 := w0_in (List.mem_append_right _ (List.mem_of_getElem? (i := 34) rfl)) rfl
set_option maxRecDepth 100000 in
theorem m_36 : Cond.methodLink RX11 11 yX9_init ∈ W0 := w0_in (List.mem_append_right _ (List.mem_of_getElem? (i := 36) rfl)) rfl
set_option maxRecDepth 100000 in
theorem m_55 : Cond.classLink RX11 21 RX1 ∈ W0 := w0_in (List.mem_append_right _ (List.mem_of_getElem? (i := 55) rfl)) rfl
set_option maxRecDepth 100000 in
theorem m_56 : Cond.instantiable RX1 21 ∈ W0 := w0_in (List.mem_append_right _ (List.mem_of_getElem? (i := 56) rfl)) rfl
set_option maxRecDepth 100000 in
theorem n_57 : Cond.methodLinkNest RX11 23 yX1_init "GameRules" ∈ tables_1 := List.mem_of_getElem? (i := 57) rfl
set_option maxRecDepth 100000 in
theorem m_58 : Cond.instanceMethod yX1_init ∈ W0 := w0_in (List.mem_append_right _ (List.mem_of_getElem? (i := 58) rfl)) rfl
set_option maxRecDepth 100000 in
theorem m_59 : Cond.code yX1_init cX1_init 1 none ∈ W0 := w0_in (List.mem_append_right _ (List.mem_of_getElem? (i := 59) rfl)) rfl
set_option maxRecDepth 100000 in
theorem m_189 : Cond.classLink RX11 31 RX2 ∈ W0 := w0_in (List.mem_append_right _ (List.mem_of_getElem? (i := 189) rfl)) rfl
set_option maxRecDepth 100000 in
theorem m_190 : Cond.instantiable RX2 7 ∈ W0 := w0_in (List.mem_append_right _ (List.mem_of_getElem? (i := 190) rfl)) rfl
set_option maxRecDepth 100000 in
theorem n_191 : Cond.methodLinkNest RX11 33 yX2_init "GameRules" ∈ tables_1 := List.mem_of_getElem? (i := 191) rfl
set_option maxRecDepth 100000 in
theorem m_192 : Cond.instanceMethod yX2_init ∈ W0 := w0_in (List.mem_append_right _ (List.mem_of_getElem? (i := 192) rfl)) rfl
set_option maxRecDepth 100000 in
theorem m_193 : Cond.code yX2_init cX2_init 1 none ∈ W0 := w0_in (List.mem_append_right _ (List.mem_of_getElem? (i := 193) rfl)) rfl
set_option maxRecDepth 100000 in
theorem m_217 : Cond.classLink RX11 38 RX10 ∈ W0 := w0_in (List.mem_append_right _ (List.mem_of_getElem? (i := 217) rfl)) rfl
set_option maxRecDepth 100000 in
theorem m_218 : Cond.instantiable RX10 9 ∈ W0 := w0_in (List.mem_append_right _ (List.mem_of_getElem? (i := 218) rfl)) rfl
set_option maxRecDepth 100000 in
theorem n_219 : Cond.methodLinkNest RX11 40 yX10_init "GameRules" ∈ tables_1 := List.mem_of_getElem? (i := 219) rfl
set_option maxRecDepth 100000 in
theorem m_220 : Cond.instanceMethod yX10_init ∈ W0 := w0_in (List.mem_append_right _ (List.mem_of_getElem? (i := 220) rfl)) rfl
set_option maxRecDepth 100000 in
theorem m_221 : Cond.code yX10_init cX10_init 1 none ∈ W0 := w0_in (List.mem_append_right _ (List.mem_of_getElem? (i := 221) rfl)) rfl
set_option maxRecDepth 100000 in
theorem m_259 : Cond.classLink RX11 45 RX5 ∈ W0 := w0_in (List.mem_append_right _ (List.mem_of_getElem? (i := 259) rfl)) rfl
set_option maxRecDepth 100000 in
theorem m_260 : Cond.instantiable RX5 10 ∈ W0 := w0_in (List.mem_append_right _ (List.mem_of_getElem? (i := 260) rfl)) rfl
set_option maxRecDepth 100000 in
theorem m_261 : Cond.methodLink RX11 47 yX5_init ∈ W0 := w0_in (List.mem_append_right _ (List.mem_of_getElem? (i := 261) rfl)) rfl
set_option maxRecDepth 100000 in
theorem m_262 : Cond.instanceMethod yX5_init ∈ W0 := w0_in (List.mem_append_right _ (List.mem_of_getElem? (i := 262) rfl)) rfl
set_option maxRecDepth 100000 in
theorem m_263 : Cond.code yX5_init cX5_init 3 none ∈ W0 := w0_in (List.mem_append_right _ (List.mem_of_getElem? (i := 263) rfl)) rfl
set_option maxRecDepth 100000 in
theorem m_376 : Cond.classLink RX11 54 RX7 ∈ W0 := w0_in (List.mem_append_right _ (List.mem_of_getElem? (i := 376) rfl)) rfl
set_option maxRecDepth 100000 in
theorem m_377 : Cond.instantiable RX7 3 ∈ W0 := w0_in (List.mem_append_right _ (List.mem_of_getElem? (i := 377) rfl)) rfl
set_option maxRecDepth 100000 in
theorem m_378 : Cond.methodLink RX11 56 yX7_init ∈ W0 := w0_in (List.mem_append_right _ (List.mem_of_getElem? (i := 378) rfl)) rfl
set_option maxRecDepth 100000 in
theorem m_379 : Cond.instanceMethod yX7_init ∈ W0 := w0_in (List.mem_append_right _ (List.mem_of_getElem? (i := 379) rfl)) rfl
set_option maxRecDepth 100000 in
theorem m_380 : Cond.code yX7_init cX7_init 2 none ∈ W0 := w0_in (List.mem_append_right _ (List.mem_of_getElem? (i := 380) rfl)) rfl
set_option maxRecDepth 100000 in
theorem m_392 : Cond.classLink RX11 63 RX8 ∈ W0 := w0_in (List.mem_append_right _ (List.mem_of_getElem? (i := 392) rfl)) rfl
set_option maxRecDepth 100000 in
theorem m_393 : Cond.instantiable RX8 4 ∈ W0 := w0_in (List.mem_append_right _ (List.mem_of_getElem? (i := 393) rfl)) rfl
set_option maxRecDepth 100000 in
theorem m_394 : Cond.methodLink RX11 65 yX8_init ∈ W0 := w0_in (List.mem_append_right _ (List.mem_of_getElem? (i := 394) rfl)) rfl
set_option maxRecDepth 100000 in
theorem m_395 : Cond.instanceMethod yX8_init ∈ W0 := w0_in (List.mem_append_right _ (List.mem_of_getElem? (i := 395) rfl)) rfl
set_option maxRecDepth 100000 in
theorem m_396 : Cond.code yX8_init cX8_init 3 none ∈ W0 := w0_in (List.mem_append_right _ (List.mem_of_getElem? (i := 396) rfl)) rfl
set_option maxRecDepth 100000 in
theorem m_415 : Cond.classLink RX11 72 RX6 ∈ W0 := w0_in (List.mem_append_right _ (List.mem_of_getElem? (i := 415) rfl)) rfl
set_option maxRecDepth 100000 in
theorem m_416 : Cond.instantiable RX6 8 ∈ W0 := w0_in (List.mem_append_right _ (List.mem_of_getElem? (i := 416) rfl)) rfl
set_option maxRecDepth 100000 in
theorem m_417 : Cond.methodLink RX11 74 yX6_init ∈ W0 := w0_in (List.mem_append_right _ (List.mem_of_getElem? (i := 417) rfl)) rfl
set_option maxRecDepth 100000 in
theorem m_418 : Cond.instanceMethod yX6_init ∈ W0 := w0_in (List.mem_append_right _ (List.mem_of_getElem? (i := 418) rfl)) rfl
set_option maxRecDepth 100000 in
theorem m_419 : Cond.code yX6_init cX6_init 4 none ∈ W0 := w0_in (List.mem_append_right _ (List.mem_of_getElem? (i := 419) rfl)) rfl
set_option maxRecDepth 100000 in
theorem m_449 : Cond.classLink RX11 81 RX0 ∈ W0 := w0_in (List.mem_append_right _ (List.mem_of_getElem? (i := 449) rfl)) rfl
set_option maxRecDepth 100000 in
theorem m_450 : Cond.instantiable RX0 19 ∈ W0 := w0_in (List.mem_append_right _ (List.mem_of_getElem? (i := 450) rfl)) rfl
set_option maxRecDepth 100000 in
theorem m_451 : Cond.methodLink RX11 83 yX0_init ∈ W0 := w0_in (List.mem_append_right _ (List.mem_of_getElem? (i := 451) rfl)) rfl
set_option maxRecDepth 100000 in
theorem m_452 : Cond.instanceMethod yX0_init ∈ W0 := w0_in (List.mem_append_right _ (List.mem_of_getElem? (i := 452) rfl)) rfl
set_option maxRecDepth 100000 in
theorem m_453 : Cond.code yX0_init cX0_init 4 none ∈ W0 := w0_in (List.mem_append_right _ (List.mem_of_getElem? (i := 453) rfl)) rfl
set_option maxRecDepth 100000 in
theorem m_518 : Cond.classLink RX11 88 RX4 ∈ W0 := w0_in (List.mem_append_right _ (List.mem_of_getElem? (i := 518) rfl)) rfl
set_option maxRecDepth 100000 in
theorem m_519 : Cond.instantiable RX4 17 ∈ W0 := w0_in (List.mem_append_right _ (List.mem_of_getElem? (i := 519) rfl)) rfl
set_option maxRecDepth 100000 in
theorem m_520 : Cond.methodLink RX11 90 yX4_init ∈ W0 := w0_in (List.mem_append_right _ (List.mem_of_getElem? (i := 520) rfl)) rfl
set_option maxRecDepth 100000 in
theorem m_521 : Cond.instanceMethod yX4_init ∈ W0 := w0_in (List.mem_append_right _ (List.mem_of_getElem? (i := 521) rfl)) rfl
set_option maxRecDepth 100000 in
theorem m_522 : Cond.code yX4_init cX4_init 3 none ∈ W0 := w0_in (List.mem_append_right _ (List.mem_of_getElem? (i := 522) rfl)) rfl
set_option maxRecDepth 100000 in
theorem m_582 : Cond.classLink RX11 101 RX3 ∈ W0 := w0_in (List.mem_append_right _ (List.mem_of_getElem? (i := 582) rfl)) rfl
set_option maxRecDepth 100000 in
theorem m_583 : Cond.methodLink RX11 120 yX3_init ∈ W0 := w0_in (List.mem_append_right _ (List.mem_of_getElem? (i := 583) rfl)) rfl
set_option maxRecDepth 100000 in
theorem m_584 : Cond.methodLink RX11 121 yJ7_fill_53178 ∈ W0 := w0_in (List.mem_append_right _ (List.mem_of_getElem? (i := 584) rfl)) rfl
set_option maxRecDepth 100000 in
theorem m_586 : Cond.methodLink RX11 129 yX9_appendAll ∈ W0 := w0_in (List.mem_append_right _ (List.mem_of_getElem? (i := 586) rfl)) rfl
set_option maxRecDepth 100000 in
theorem m_644 : Cond.methodLink RX11 137 yX2_read ∈ W0 := w0_in (List.mem_append_right _ (List.mem_of_getElem? (i := 644) rfl)) rfl
set_option maxRecDepth 100000 in
theorem m_645 : Cond.instanceMethod yX2_read ∈ W0 := w0_in (List.mem_append_right _ (List.mem_of_getElem? (i := 645) rfl)) rfl
set_option maxRecDepth 100000 in
theorem m_646 : Cond.selects RX2 yX2_read yX2_read ∈ W0 := w0_in (List.mem_append_right _ (List.mem_of_getElem? (i := 646) rfl)) rfl
set_option maxRecDepth 100000 in
theorem m_647 : Cond.code yX2_read cX2_read 5 (some .boolean) ∈ W0 := w0_in (List.mem_append_right _ (List.mem_of_getElem? (i := 647) rfl)) rfl
set_option maxRecDepth 100000 in
theorem m_791 : Cond.methodLink RX11 141 yX10_lay ∈ W0 := w0_in (List.mem_append_right _ (List.mem_of_getElem? (i := 791) rfl)) rfl
set_option maxRecDepth 100000 in
theorem m_792 : Cond.instanceMethod yX10_lay ∈ W0 := w0_in (List.mem_append_right _ (List.mem_of_getElem? (i := 792) rfl)) rfl
set_option maxRecDepth 100000 in
theorem m_793 : Cond.selects RX10 yX10_lay yX10_lay ∈ W0 := w0_in (List.mem_append_right _ (List.mem_of_getElem? (i := 793) rfl)) rfl
set_option maxRecDepth 100000 in
theorem m_794 : Cond.code yX10_lay cX10_lay 4 none ∈ W0 := w0_in (List.mem_append_right _ (List.mem_of_getElem? (i := 794) rfl)) rfl
set_option maxRecDepth 100000 in
theorem m_825 : Cond.methodLink RX11 144 yX9_clear ∈ W0 := w0_in (List.mem_append_right _ (List.mem_of_getElem? (i := 825) rfl)) rfl
set_option maxRecDepth 100000 in
theorem m_829 : Cond.fieldLink RX11 14 (TX11 0).1 (TX11 0).2.1 (TX11 0).2.2.1 ∈ W0 := w0_in (List.mem_append_right _ (List.mem_of_getElem? (i := 829) rfl)) rfl
set_option maxRecDepth 100000 in
theorem m_830 : Cond.fieldLink RX11 18 (TX11 1).1 (TX11 1).2.1 (TX11 1).2.2.1 ∈ W0 := w0_in (List.mem_append_right _ (List.mem_of_getElem? (i := 830) rfl)) rfl
set_option maxRecDepth 100000 in
theorem m_831 : Cond.fieldLink RX11 24 (TX11 2).1 (TX11 2).2.1 (TX11 2).2.2.1 ∈ W0 := w0_in (List.mem_append_right _ (List.mem_of_getElem? (i := 831) rfl)) rfl
set_option maxRecDepth 100000 in
theorem m_832 : Cond.fieldLink RX11 28 (TX11 3).1 (TX11 3).2.1 (TX11 3).2.2.1 ∈ W0 := w0_in (List.mem_append_right _ (List.mem_of_getElem? (i := 832) rfl)) rfl
set_option maxRecDepth 100000 in
theorem m_833 : Cond.fieldLink RX11 34 (TX11 4).1 (TX11 4).2.1 (TX11 4).2.2.1 ∈ W0 := w0_in (List.mem_append_right _ (List.mem_of_getElem? (i := 833) rfl)) rfl
set_option maxRecDepth 100000 in
theorem m_834 : Cond.fieldLink RX11 41 (TX11 5).1 (TX11 5).2.1 (TX11 5).2.2.1 ∈ W0 := w0_in (List.mem_append_right _ (List.mem_of_getElem? (i := 834) rfl)) rfl
set_option maxRecDepth 100000 in
theorem m_835 : Cond.fieldLink RX11 50 (TX11 6).1 (TX11 6).2.1 (TX11 6).2.2.1 ∈ W0 := w0_in (List.mem_append_right _ (List.mem_of_getElem? (i := 835) rfl)) rfl
set_option maxRecDepth 100000 in
theorem m_836 : Cond.fieldLink RX11 59 (TX11 7).1 (TX11 7).2.1 (TX11 7).2.2.1 ∈ W0 := w0_in (List.mem_append_right _ (List.mem_of_getElem? (i := 836) rfl)) rfl
set_option maxRecDepth 100000 in
theorem m_837 : Cond.fieldLink RX11 68 (TX11 8).1 (TX11 8).2.1 (TX11 8).2.2.1 ∈ W0 := w0_in (List.mem_append_right _ (List.mem_of_getElem? (i := 837) rfl)) rfl
set_option maxRecDepth 100000 in
theorem m_838 : Cond.fieldLink RX11 77 (TX11 9).1 (TX11 9).2.1 (TX11 9).2.2.1 ∈ W0 := w0_in (List.mem_append_right _ (List.mem_of_getElem? (i := 838) rfl)) rfl
set_option maxRecDepth 100000 in
theorem m_839 : Cond.fieldLink RX11 84 (TX11 10).1 (TX11 10).2.1 (TX11 10).2.2.1 ∈ W0 := w0_in (List.mem_append_right _ (List.mem_of_getElem? (i := 839) rfl)) rfl
set_option maxRecDepth 100000 in
theorem m_840 : Cond.fieldLink RX11 93 (TX11 11).1 (TX11 11).2.1 (TX11 11).2.2.1 ∈ W0 := w0_in (List.mem_append_right _ (List.mem_of_getElem? (i := 840) rfl)) rfl
set_option maxRecDepth 100000 in
theorem m_841 : Cond.fieldLink RX11 97 (TX11 12).1 (TX11 12).2.1 (TX11 12).2.2.1 ∈ W0 := w0_in (List.mem_append_right _ (List.mem_of_getElem? (i := 841) rfl)) rfl
set_option maxRecDepth 100000 in
theorem m_842 : Cond.fieldLink RX11 103 (TX11 13).1 (TX11 13).2.1 (TX11 13).2.2.1 ∈ W0 := w0_in (List.mem_append_right _ (List.mem_of_getElem? (i := 842) rfl)) rfl
set_option maxRecDepth 100000 in
theorem m_843 : Cond.fieldLink RX11 107 (TX11 14).1 (TX11 14).2.1 (TX11 14).2.2.1 ∈ W0 := w0_in (List.mem_append_right _ (List.mem_of_getElem? (i := 843) rfl)) rfl
set_option maxRecDepth 100000 in
theorem m_844 : Cond.fieldLink RX11 111 (TX11 15).1 (TX11 15).2.1 (TX11 15).2.2.1 ∈ W0 := w0_in (List.mem_append_right _ (List.mem_of_getElem? (i := 844) rfl)) rfl
set_option maxRecDepth 100000 in
theorem m_845 : Cond.fieldLink RX11 114 (TX11 16).1 (TX11 16).2.1 (TX11 16).2.2.1 ∈ W0 := w0_in (List.mem_append_right _ (List.mem_of_getElem? (i := 845) rfl)) rfl
set_option maxRecDepth 100000 in
theorem m_846 : Cond.fieldLink RX11 117 (TX11 17).1 (TX11 17).2.1 (TX11 17).2.2.1 ∈ W0 := w0_in (List.mem_append_right _ (List.mem_of_getElem? (i := 846) rfl)) rfl
theorem i_X11 : ∀ w ∈ u_ws RX11 TX11 18, w ∈ W0 := by
  intro w hw
  exact w0_in (List.mem_append_right _ ((by decide +kernel : ∀ w ∈ u_ws RX11 TX11 18, w ∈ tables_1) w hw)) ((by decide +kernel : ∀ w ∈ u_ws RX11 TX11 18, goodWord w = true) w hw)
theorem dv_X0 : ∀ j, j < 19 → defaultValue (tyX0 j) = dV ((tl 0).getD j 2) := by decide +kernel
theorem dv_X1 : ∀ j, j < 21 → defaultValue (tyX1 j) = dV ((tl 1).getD j 2) := by decide +kernel
theorem dv_X2 : ∀ j, j < 7 → defaultValue (tyX2 j) = dV ((tl 2).getD j 2) := by decide +kernel
theorem dv_X4 : ∀ j, j < 17 → defaultValue (tyX4 j) = dV ((tl 4).getD j 2) := by decide +kernel
theorem dv_X5 : ∀ j, j < 10 → defaultValue (tyX5 j) = dV ((tl 5).getD j 2) := by decide +kernel
theorem dv_X6 : ∀ j, j < 8 → defaultValue (tyX6 j) = dV ((tl 6).getD j 2) := by decide +kernel
theorem dv_X7 : ∀ j, j < 3 → defaultValue (tyX7 j) = dV ((tl 7).getD j 2) := by decide +kernel
theorem dv_X8 : ∀ j, j < 4 → defaultValue (tyX8 j) = dV ((tl 8).getD j 2) := by decide +kernel
theorem dv_X10 : ∀ j, j < 9 → defaultValue (tyX10 j) = dV ((tl 10).getD j 2) := by decide +kernel
section
variable {p : Program} {l : Launch} {e : Env} {R : Room} {s : State} {m : MethodId} {args : Array Value} {below : List Frame} {meth : Method} {c : Code} {H : Heap} {locs : List Loc} {cells slots : Nat} {Q : State → Prop}
variable {cc : ByteArray} {pc : Nat} {ls : Array Slot} {rest : List Value} {X : Ec} {h h1 : Hp} {nL : Nat} {rt : Option FieldType} {mn : String}
theorem gf_X11_14 {a r : Nat} (C : Cx X p s m args meth c RX11 cc nL rt mn) (hW : Wx X h H) (ha : hK h a = 11) (hr : hR h a 0 = some r) (hdg : decode cc pc = .ok (.getfield 14, 3)) (kk : hK h r = 9 → W p l e R s m args below meth c H locs cells slots Q (F0 m (pc + 3) ls (.ref r :: rest))) : W p l e R s m args below meth c H locs cells slots Q (F0 m pc ls (.ref a :: rest)) :=
  y_getr C hW ha i_X11 (by decide) rfl (by decide) m_829 rfl rfl hr hdg kk
theorem gf_X11_41 {a r : Nat} (C : Cx X p s m args meth c RX11 cc nL rt mn) (hW : Wx X h H) (ha : hK h a = 11) (hr : hR h a 5 = some r) (hdg : decode cc pc = .ok (.getfield 41, 3)) (kk : hK h r = 10 → W p l e R s m args below meth c H locs cells slots Q (F0 m (pc + 3) ls (.ref r :: rest))) : W p l e R s m args below meth c H locs cells slots Q (F0 m pc ls (.ref a :: rest)) :=
  y_getr C hW ha i_X11 (by decide) rfl (by decide) m_834 rfl rfl hr hdg kk
theorem gf_X11_24 {a r : Nat} (C : Cx X p s m args meth c RX11 cc nL rt mn) (hW : Wx X h H) (ha : hK h a = 11) (hr : hR h a 2 = some r) (hdg : decode cc pc = .ok (.getfield 24, 3)) (kk : hK h r = 1 → W p l e R s m args below meth c H locs cells slots Q (F0 m (pc + 3) ls (.ref r :: rest))) : W p l e R s m args below meth c H locs cells slots Q (F0 m pc ls (.ref a :: rest)) :=
  y_getr C hW ha i_X11 (by decide) rfl (by decide) m_831 rfl rfl hr hdg kk
theorem gf_X11_34 {a r : Nat} (C : Cx X p s m args meth c RX11 cc nL rt mn) (hW : Wx X h H) (ha : hK h a = 11) (hr : hR h a 4 = some r) (hdg : decode cc pc = .ok (.getfield 34, 3)) (kk : hK h r = 2 → W p l e R s m args below meth c H locs cells slots Q (F0 m (pc + 3) ls (.ref r :: rest))) : W p l e R s m args below meth c H locs cells slots Q (F0 m pc ls (.ref a :: rest)) :=
  y_getr C hW ha i_X11 (by decide) rfl (by decide) m_833 rfl rfl hr hdg kk
theorem gf_X11_117 {a r : Nat} (C : Cx X p s m args meth c RX11 cc nL rt mn) (hW : Wx X h H) (ha : hK h a = 11) (hr : hR h a 17 = some r) (hdg : decode cc pc = .ok (.getfield 117, 3)) (kk : hK h r = 17 → W p l e R s m args below meth c H locs cells slots Q (F0 m (pc + 3) ls (.ref r :: rest))) : W p l e R s m args below meth c H locs cells slots Q (F0 m pc ls (.ref a :: rest)) :=
  y_getr C hW ha i_X11 (by decide) rfl (by decide) m_846 rfl rfl hr hdg kk
theorem gf_X11_103 {a r : Nat} (C : Cx X p s m args meth c RX11 cc nL rt mn) (hW : Wx X h H) (ha : hK h a = 11) (hr : hR h a 13 = some r) (hdg : decode cc pc = .ok (.getfield 103, 3)) (kk : hK h r = 20 → W p l e R s m args below meth c H locs cells slots Q (F0 m (pc + 3) ls (.ref r :: rest))) : W p l e R s m args below meth c H locs cells slots Q (F0 m pc ls (.ref a :: rest)) :=
  y_getr C hW ha i_X11 (by decide) rfl (by decide) m_842 rfl rfl hr hdg kk
theorem pf_X11_117 {a r : Nat} (C : Cx X p s m args meth c RX11 cc nL rt mn) (hW : Wx X h H) (hZ : va_S (aA (eB X)) s.heap H locs) (hmn : mn = "<init>") (ha : hK h a = 11) (hr : hK h r = 17) (eh : h1 = wR h a 17 (some r)) (hdg : decode cc pc = .ok (.putfield 117, 3)) (kk : ∀ (H1 : Heap) (locs1 : List Loc), Wx X h1 H1 → Km h h1 → va_S (aA (eB X)) s.heap H1 locs1 → W p l e R s m args below meth c H1 locs1 cells slots Q (F0 m (pc + 3) ls rest)) : W p l e R s m args below meth c H locs cells slots Q (F0 m pc ls (.ref r :: .ref a :: rest)) :=
  y_putrF (ty := .array .int) C hW hZ ha i_X11 tyX11 tyX11_ok nmX11 (by decide) rfl rfl (by decide) m_846 rfl hmn rfl (by decide +kernel) rfl rfl rfl hr rfl (by decide) eh hdg kk
theorem pf_X11_114 {a r : Nat} (C : Cx X p s m args meth c RX11 cc nL rt mn) (hW : Wx X h H) (hZ : va_S (aA (eB X)) s.heap H locs) (hmn : mn = "<init>") (ha : hK h a = 11) (hr : hK h r = 17) (eh : h1 = wR h a 16 (some r)) (hdg : decode cc pc = .ok (.putfield 114, 3)) (kk : ∀ (H1 : Heap) (locs1 : List Loc), Wx X h1 H1 → Km h h1 → va_S (aA (eB X)) s.heap H1 locs1 → W p l e R s m args below meth c H1 locs1 cells slots Q (F0 m (pc + 3) ls rest)) : W p l e R s m args below meth c H locs cells slots Q (F0 m pc ls (.ref r :: .ref a :: rest)) :=
  y_putrF (ty := .array .int) C hW hZ ha i_X11 tyX11 tyX11_ok nmX11 (by decide) rfl rfl (by decide) m_845 rfl hmn rfl (by decide +kernel) rfl rfl rfl hr rfl (by decide) eh hdg kk
theorem pf_X11_111 {a r : Nat} (C : Cx X p s m args meth c RX11 cc nL rt mn) (hW : Wx X h H) (hZ : va_S (aA (eB X)) s.heap H locs) (hmn : mn = "<init>") (ha : hK h a = 11) (hr : hK h r = 20) (eh : h1 = wR h a 15 (some r)) (hdg : decode cc pc = .ok (.putfield 111, 3)) (kk : ∀ (H1 : Heap) (locs1 : List Loc), Wx X h1 H1 → Km h h1 → va_S (aA (eB X)) s.heap H1 locs1 → W p l e R s m args below meth c H1 locs1 cells slots Q (F0 m (pc + 3) ls rest)) : W p l e R s m args below meth c H locs cells slots Q (F0 m pc ls (.ref r :: .ref a :: rest)) :=
  y_putrF (ty := .array (.object "GameRules$Position")) C hW hZ ha i_X11 tyX11 tyX11_ok nmX11 (by decide) rfl rfl (by decide) m_844 rfl hmn rfl (by decide +kernel) rfl rfl rfl hr rfl (by decide) eh hdg kk
theorem pf_X11_107 {a r : Nat} (C : Cx X p s m args meth c RX11 cc nL rt mn) (hW : Wx X h H) (hZ : va_S (aA (eB X)) s.heap H locs) (hmn : mn = "<init>") (ha : hK h a = 11) (hr : hK h r = 19) (eh : h1 = wR h a 14 (some r)) (hdg : decode cc pc = .ok (.putfield 107, 3)) (kk : ∀ (H1 : Heap) (locs1 : List Loc), Wx X h1 H1 → Km h h1 → va_S (aA (eB X)) s.heap H1 locs1 → W p l e R s m args below meth c H1 locs1 cells slots Q (F0 m (pc + 3) ls rest)) : W p l e R s m args below meth c H locs cells slots Q (F0 m pc ls (.ref r :: .ref a :: rest)) :=
  y_putrF (ty := .array .boolean) C hW hZ ha i_X11 tyX11 tyX11_ok nmX11 (by decide) rfl rfl (by decide) m_843 rfl hmn rfl (by decide +kernel) rfl rfl rfl hr rfl (by decide) eh hdg kk
theorem pf_X11_103 {a r : Nat} (C : Cx X p s m args meth c RX11 cc nL rt mn) (hW : Wx X h H) (hZ : va_S (aA (eB X)) s.heap H locs) (hmn : mn = "<init>") (ha : hK h a = 11) (hr : hK h r = 20) (eh : h1 = wR h a 13 (some r)) (hdg : decode cc pc = .ok (.putfield 103, 3)) (kk : ∀ (H1 : Heap) (locs1 : List Loc), Wx X h1 H1 → Km h h1 → va_S (aA (eB X)) s.heap H1 locs1 → W p l e R s m args below meth c H1 locs1 cells slots Q (F0 m (pc + 3) ls rest)) : W p l e R s m args below meth c H locs cells slots Q (F0 m pc ls (.ref r :: .ref a :: rest)) :=
  y_putrF (ty := .array (.object "GameRules$Position")) C hW hZ ha i_X11 tyX11 tyX11_ok nmX11 (by decide) rfl rfl (by decide) m_842 rfl hmn rfl (by decide +kernel) rfl rfl rfl hr rfl (by decide) eh hdg kk
theorem pf_X11_97 {a r : Nat} (C : Cx X p s m args meth c RX11 cc nL rt mn) (hW : Wx X h H) (hZ : va_S (aA (eB X)) s.heap H locs) (hmn : mn = "<init>") (ha : hK h a = 11) (hr : hK h r = 17) (eh : h1 = wR h a 12 (some r)) (hdg : decode cc pc = .ok (.putfield 97, 3)) (kk : ∀ (H1 : Heap) (locs1 : List Loc), Wx X h1 H1 → Km h h1 → va_S (aA (eB X)) s.heap H1 locs1 → W p l e R s m args below meth c H1 locs1 cells slots Q (F0 m (pc + 3) ls rest)) : W p l e R s m args below meth c H locs cells slots Q (F0 m pc ls (.ref r :: .ref a :: rest)) :=
  y_putrF (ty := .array .int) C hW hZ ha i_X11 tyX11 tyX11_ok nmX11 (by decide) rfl rfl (by decide) m_841 rfl hmn rfl (by decide +kernel) rfl rfl rfl hr rfl (by decide) eh hdg kk
theorem pf_X11_93 {a r : Nat} (C : Cx X p s m args meth c RX11 cc nL rt mn) (hW : Wx X h H) (hZ : va_S (aA (eB X)) s.heap H locs) (hmn : mn = "<init>") (ha : hK h a = 11) (hr : hK h r = 4) (eh : h1 = wR h a 11 (some r)) (hdg : decode cc pc = .ok (.putfield 93, 3)) (kk : ∀ (H1 : Heap) (locs1 : List Loc), Wx X h1 H1 → Km h h1 → va_S (aA (eB X)) s.heap H1 locs1 → W p l e R s m args below meth c H1 locs1 cells slots Q (F0 m (pc + 3) ls rest)) : W p l e R s m args below meth c H locs cells slots Q (F0 m pc ls (.ref r :: .ref a :: rest)) :=
  y_putrF (ty := .object "GameRules$Problems") C hW hZ ha i_X11 tyX11 tyX11_ok nmX11 (by decide) rfl rfl (by decide) m_840 rfl hmn rfl (by decide +kernel) rfl rfl rfl hr rfl (by decide) eh hdg kk
theorem gf_X11_50 {a r : Nat} (C : Cx X p s m args meth c RX11 cc nL rt mn) (hW : Wx X h H) (ha : hK h a = 11) (hr : hR h a 6 = some r) (hdg : decode cc pc = .ok (.getfield 50, 3)) (kk : hK h r = 5 → W p l e R s m args below meth c H locs cells slots Q (F0 m (pc + 3) ls (.ref r :: rest))) : W p l e R s m args below meth c H locs cells slots Q (F0 m pc ls (.ref a :: rest)) :=
  y_getr C hW ha i_X11 (by decide) rfl (by decide) m_835 rfl rfl hr hdg kk
theorem pf_X11_84 {a r : Nat} (C : Cx X p s m args meth c RX11 cc nL rt mn) (hW : Wx X h H) (hZ : va_S (aA (eB X)) s.heap H locs) (hmn : mn = "<init>") (ha : hK h a = 11) (hr : hK h r = 0) (eh : h1 = wR h a 10 (some r)) (hdg : decode cc pc = .ok (.putfield 84, 3)) (kk : ∀ (H1 : Heap) (locs1 : List Loc), Wx X h1 H1 → Km h h1 → va_S (aA (eB X)) s.heap H1 locs1 → W p l e R s m args below meth c H1 locs1 cells slots Q (F0 m (pc + 3) ls rest)) : W p l e R s m args below meth c H locs cells slots Q (F0 m pc ls (.ref r :: .ref a :: rest)) :=
  y_putrF (ty := .object "GameRules$Endings") C hW hZ ha i_X11 tyX11 tyX11_ok nmX11 (by decide) rfl rfl (by decide) m_839 rfl hmn rfl (by decide +kernel) rfl rfl rfl hr rfl (by decide) eh hdg kk
theorem pf_X11_77 {a r : Nat} (C : Cx X p s m args meth c RX11 cc nL rt mn) (hW : Wx X h H) (hZ : va_S (aA (eB X)) s.heap H locs) (hmn : mn = "<init>") (ha : hK h a = 11) (hr : hK h r = 6) (eh : h1 = wR h a 9 (some r)) (hdg : decode cc pc = .ok (.putfield 77, 3)) (kk : ∀ (H1 : Heap) (locs1 : List Loc), Wx X h1 H1 → Km h h1 → va_S (aA (eB X)) s.heap H1 locs1 → W p l e R s m args below meth c H1 locs1 cells slots Q (F0 m (pc + 3) ls rest)) : W p l e R s m args below meth c H locs cells slots Q (F0 m pc ls (.ref r :: .ref a :: rest)) :=
  y_putrF (ty := .object "GameRules$Retro") C hW hZ ha i_X11 tyX11 tyX11_ok nmX11 (by decide) rfl rfl (by decide) m_838 rfl hmn rfl (by decide +kernel) rfl rfl rfl hr rfl (by decide) eh hdg kk
theorem pf_X11_68 {a r : Nat} (C : Cx X p s m args meth c RX11 cc nL rt mn) (hW : Wx X h H) (hZ : va_S (aA (eB X)) s.heap H locs) (hmn : mn = "<init>") (ha : hK h a = 11) (hr : hK h r = 8) (eh : h1 = wR h a 8 (some r)) (hdg : decode cc pc = .ok (.putfield 68, 3)) (kk : ∀ (H1 : Heap) (locs1 : List Loc), Wx X h1 H1 → Km h h1 → va_S (aA (eB X)) s.heap H1 locs1 → W p l e R s m args below meth c H1 locs1 cells slots Q (F0 m (pc + 3) ls rest)) : W p l e R s m args below meth c H locs cells slots Q (F0 m pc ls (.ref r :: .ref a :: rest)) :=
  y_putrF (ty := .object "GameRules$Speaker") C hW hZ ha i_X11 tyX11 tyX11_ok nmX11 (by decide) rfl rfl (by decide) m_837 rfl hmn rfl (by decide +kernel) rfl rfl rfl hr rfl (by decide) eh hdg kk
theorem pf_X11_59 {a r : Nat} (C : Cx X p s m args meth c RX11 cc nL rt mn) (hW : Wx X h H) (hZ : va_S (aA (eB X)) s.heap H locs) (hmn : mn = "<init>") (ha : hK h a = 11) (hr : hK h r = 7) (eh : h1 = wR h a 7 (some r)) (hdg : decode cc pc = .ok (.putfield 59, 3)) (kk : ∀ (H1 : Heap) (locs1 : List Loc), Wx X h1 H1 → Km h h1 → va_S (aA (eB X)) s.heap H1 locs1 → W p l e R s m args below meth c H1 locs1 cells slots Q (F0 m (pc + 3) ls rest)) : W p l e R s m args below meth c H locs cells slots Q (F0 m pc ls (.ref r :: .ref a :: rest)) :=
  y_putrF (ty := .object "GameRules$Scribe") C hW hZ ha i_X11 tyX11 tyX11_ok nmX11 (by decide) rfl rfl (by decide) m_836 rfl hmn rfl (by decide +kernel) rfl rfl rfl hr rfl (by decide) eh hdg kk
theorem pf_X11_50 {a r : Nat} (C : Cx X p s m args meth c RX11 cc nL rt mn) (hW : Wx X h H) (hZ : va_S (aA (eB X)) s.heap H locs) (hmn : mn = "<init>") (ha : hK h a = 11) (hr : hK h r = 5) (eh : h1 = wR h a 6 (some r)) (hdg : decode cc pc = .ok (.putfield 50, 3)) (kk : ∀ (H1 : Heap) (locs1 : List Loc), Wx X h1 H1 → Km h h1 → va_S (aA (eB X)) s.heap H1 locs1 → W p l e R s m args below meth c H1 locs1 cells slots Q (F0 m (pc + 3) ls rest)) : W p l e R s m args below meth c H locs cells slots Q (F0 m pc ls (.ref r :: .ref a :: rest)) :=
  y_putrF (ty := .object "GameRules$Referee") C hW hZ ha i_X11 tyX11 tyX11_ok nmX11 (by decide) rfl rfl (by decide) m_835 rfl hmn rfl (by decide +kernel) rfl rfl rfl hr rfl (by decide) eh hdg kk
theorem pf_X11_41 {a r : Nat} (C : Cx X p s m args meth c RX11 cc nL rt mn) (hW : Wx X h H) (hZ : va_S (aA (eB X)) s.heap H locs) (hmn : mn = "<init>") (ha : hK h a = 11) (hr : hK h r = 10) (eh : h1 = wR h a 5 (some r)) (hdg : decode cc pc = .ok (.putfield 41, 3)) (kk : ∀ (H1 : Heap) (locs1 : List Loc), Wx X h1 H1 → Km h h1 → va_S (aA (eB X)) s.heap H1 locs1 → W p l e R s m args below meth c H1 locs1 cells slots Q (F0 m (pc + 3) ls rest)) : W p l e R s m args below meth c H locs cells slots Q (F0 m pc ls (.ref r :: .ref a :: rest)) :=
  y_putrF (ty := .object "GameRules$Ways") C hW hZ ha i_X11 tyX11 tyX11_ok nmX11 (by decide) rfl rfl (by decide) m_834 rfl hmn rfl (by decide +kernel) rfl rfl rfl hr rfl (by decide) eh hdg kk
theorem pf_X11_34 {a r : Nat} (C : Cx X p s m args meth c RX11 cc nL rt mn) (hW : Wx X h H) (hZ : va_S (aA (eB X)) s.heap H locs) (hmn : mn = "<init>") (ha : hK h a = 11) (hr : hK h r = 2) (eh : h1 = wR h a 4 (some r)) (hdg : decode cc pc = .ok (.putfield 34, 3)) (kk : ∀ (H1 : Heap) (locs1 : List Loc), Wx X h1 H1 → Km h h1 → va_S (aA (eB X)) s.heap H1 locs1 → W p l e R s m args below meth c H1 locs1 cells slots Q (F0 m (pc + 3) ls rest)) : W p l e R s m args below meth c H locs cells slots Q (F0 m pc ls (.ref r :: .ref a :: rest)) :=
  y_putrF (ty := .object "GameRules$LawReader") C hW hZ ha i_X11 tyX11 tyX11_ok nmX11 (by decide) rfl rfl (by decide) m_833 rfl hmn rfl (by decide +kernel) rfl rfl rfl hr rfl (by decide) eh hdg kk
theorem pf_X11_28 {a r : Nat} (C : Cx X p s m args meth c RX11 cc nL rt mn) (hW : Wx X h H) (hZ : va_S (aA (eB X)) s.heap H locs) (hmn : mn = "<init>") (ha : hK h a = 11) (hr : hK h r = 1) (eh : h1 = wR h a 3 (some r)) (hdg : decode cc pc = .ok (.putfield 28, 3)) (kk : ∀ (H1 : Heap) (locs1 : List Loc), Wx X h1 H1 → Km h h1 → va_S (aA (eB X)) s.heap H1 locs1 → W p l e R s m args below meth c H1 locs1 cells slots Q (F0 m (pc + 3) ls rest)) : W p l e R s m args below meth c H locs cells slots Q (F0 m pc ls (.ref r :: .ref a :: rest)) :=
  y_putrF (ty := .object "GameRules$Law") C hW hZ ha i_X11 tyX11 tyX11_ok nmX11 (by decide) rfl rfl (by decide) m_832 rfl hmn rfl (by decide +kernel) rfl rfl rfl hr rfl (by decide) eh hdg kk
theorem pf_X11_24 {a r : Nat} (C : Cx X p s m args meth c RX11 cc nL rt mn) (hW : Wx X h H) (hZ : va_S (aA (eB X)) s.heap H locs) (hmn : mn = "<init>") (ha : hK h a = 11) (hr : hK h r = 1) (eh : h1 = wR h a 2 (some r)) (hdg : decode cc pc = .ok (.putfield 24, 3)) (kk : ∀ (H1 : Heap) (locs1 : List Loc), Wx X h1 H1 → Km h h1 → va_S (aA (eB X)) s.heap H1 locs1 → W p l e R s m args below meth c H1 locs1 cells slots Q (F0 m (pc + 3) ls rest)) : W p l e R s m args below meth c H locs cells slots Q (F0 m pc ls (.ref r :: .ref a :: rest)) :=
  y_putrF (ty := .object "GameRules$Law") C hW hZ ha i_X11 tyX11 tyX11_ok nmX11 (by decide) rfl rfl (by decide) m_831 rfl hmn rfl (by decide +kernel) rfl rfl rfl hr rfl (by decide) eh hdg kk
theorem pf_X11_18 {a r : Nat} (C : Cx X p s m args meth c RX11 cc nL rt mn) (hW : Wx X h H) (hZ : va_S (aA (eB X)) s.heap H locs) (hmn : mn = "<init>") (ha : hK h a = 11) (hr : hK h r = 9) (eh : h1 = wR h a 1 (some r)) (hdg : decode cc pc = .ok (.putfield 18, 3)) (kk : ∀ (H1 : Heap) (locs1 : List Loc), Wx X h1 H1 → Km h h1 → va_S (aA (eB X)) s.heap H1 locs1 → W p l e R s m args below meth c H1 locs1 cells slots Q (F0 m (pc + 3) ls rest)) : W p l e R s m args below meth c H locs cells slots Q (F0 m pc ls (.ref r :: .ref a :: rest)) :=
  y_putrF (ty := .object "GameRules$Text") C hW hZ ha i_X11 tyX11 tyX11_ok nmX11 (by decide) rfl rfl (by decide) m_830 rfl hmn rfl (by decide +kernel) rfl rfl rfl hr rfl (by decide) eh hdg kk
theorem pf_X11_14 {a r : Nat} (C : Cx X p s m args meth c RX11 cc nL rt mn) (hW : Wx X h H) (hZ : va_S (aA (eB X)) s.heap H locs) (hmn : mn = "<init>") (ha : hK h a = 11) (hr : hK h r = 9) (eh : h1 = wR h a 0 (some r)) (hdg : decode cc pc = .ok (.putfield 14, 3)) (kk : ∀ (H1 : Heap) (locs1 : List Loc), Wx X h1 H1 → Km h h1 → va_S (aA (eB X)) s.heap H1 locs1 → W p l e R s m args below meth c H1 locs1 cells slots Q (F0 m (pc + 3) ls rest)) : W p l e R s m args below meth c H locs cells slots Q (F0 m pc ls (.ref r :: .ref a :: rest)) :=
  y_putrF (ty := .object "GameRules$Text") C hW hZ ha i_X11 tyX11 tyX11_ok nmX11 (by decide) rfl rfl (by decide) m_829 rfl hmn rfl (by decide +kernel) rfl rfl rfl hr rfl (by decide) eh hdg kk
end
theorem cw_X11_144 : cwd RX11 144 yX9_clear cX9_clear 1 none false 0 := ⟨m_828, m_825, m_2, ⟨m_826, m_827⟩, by decide, by decide, by decide +kernel⟩
theorem cw_X11_141 : cwd RX11 141 yX10_lay cX10_lay 4 none false 1 := ⟨m_794, m_791, m_6, ⟨m_792, m_793⟩, by decide, by decide, by decide +kernel⟩
theorem cw_X11_137 : cwd RX11 137 yX2_read cX2_read 5 (some .boolean) false 2 := ⟨m_647, m_644, m_5, ⟨m_645, m_646⟩, by decide, by decide, by decide +kernel⟩
theorem cw_X11_129 : cwd RX11 129 yX9_appendAll cX9_appendAll 3 none false 1 := ⟨m_589, m_586, m_2, ⟨m_587, m_588⟩, by decide, by decide, by decide +kernel⟩
theorem ci_X11_120 : cwi RX11 120 yX3_init cX3_init 1 0 := ⟨m_269, m_583, m_8, m_268, rfl, by decide, by decide, by decide +kernel⟩
theorem cw_X11_121 : cwd RX11 121 yJ7_fill_53178 cJ7_fill_53178 4 none true 2 := ⟨m_276, m_584, m_9, m_275, by decide, by decide, by decide +kernel⟩
theorem ci_X11_90 : cwi RX11 90 yX4_init cX4_init 3 1 := ⟨m_522, m_520, m_14, m_521, rfl, by decide, by decide, by decide +kernel⟩
theorem ci_X11_83 : cwi RX11 83 yX0_init cX0_init 4 3 := ⟨m_453, m_451, m_13, m_452, rfl, by decide, by decide, by decide +kernel⟩
theorem ci_X11_74 : cwi RX11 74 yX6_init cX6_init 4 3 := ⟨m_419, m_417, m_12, m_418, rfl, by decide, by decide, by decide +kernel⟩
theorem ci_X11_65 : cwi RX11 65 yX8_init cX8_init 3 2 := ⟨m_396, m_394, m_11, m_395, rfl, by decide, by decide, by decide +kernel⟩
theorem ci_X11_56 : cwi RX11 56 yX7_init cX7_init 2 1 := ⟨m_380, m_378, m_10, m_379, rfl, by decide, by decide, by decide +kernel⟩
theorem ci_X11_47 : cwi RX11 47 yX5_init cX5_init 3 2 := ⟨m_263, m_261, m_7, m_262, rfl, by decide, by decide, by decide +kernel⟩
theorem cj_X11_40 : cwin RX11 40 "GameRules" yX10_init cX10_init 1 0 := ⟨m_221, n_219, m_6, m_220, rfl, by decide, by decide, by decide +kernel⟩
theorem cj_X11_33 : cwin RX11 33 "GameRules" yX2_init cX2_init 1 0 := ⟨m_193, n_191, m_5, m_192, rfl, by decide, by decide, by decide +kernel⟩
theorem cj_X11_23 : cwin RX11 23 "GameRules" yX1_init cX1_init 1 0 := ⟨m_59, n_57, m_4, m_58, rfl, by decide, by decide, by decide +kernel⟩
theorem ci_X11_11 : cwi RX11 11 yX9_init cX9_init 2 1 := ⟨m_38, m_36, m_2, m_37, rfl, by decide, by decide, by decide +kernel⟩
theorem dX11_init_0 : decode cX11_init 0 = .ok (.aload_n 0, 1) := by decide +kernel
theorem dX11_init_1 : decode cX11_init 1 = .ok (.invokespecial 3, 3) := by decide +kernel
theorem dX11_init_4 : decode cX11_init 4 = .ok (.aload_n 0, 1) := by decide +kernel
theorem dX11_init_5 : decode cX11_init 5 = .ok (.new 9, 3) := by decide +kernel
theorem dX11_init_8 : decode cX11_init 8 = .ok (.dup, 1) := by decide +kernel
theorem dX11_init_9 : decode cX11_init 9 = .ok (.sipush 1200, 3) := by decide +kernel
theorem dX11_init_12 : decode cX11_init 12 = .ok (.invokespecial 11, 3) := by decide +kernel
theorem dX11_init_15 : decode cX11_init 15 = .ok (.putfield 14, 3) := by decide +kernel
theorem dX11_init_18 : decode cX11_init 18 = .ok (.aload_n 0, 1) := by decide +kernel
theorem dX11_init_19 : decode cX11_init 19 = .ok (.new 9, 3) := by decide +kernel
theorem dX11_init_22 : decode cX11_init 22 = .ok (.dup, 1) := by decide +kernel
theorem dX11_init_23 : decode cX11_init 23 = .ok (.sipush 512, 3) := by decide +kernel
theorem dX11_init_26 : decode cX11_init 26 = .ok (.invokespecial 11, 3) := by decide +kernel
theorem dX11_init_29 : decode cX11_init 29 = .ok (.putfield 18, 3) := by decide +kernel
theorem dX11_init_32 : decode cX11_init 32 = .ok (.aload_n 0, 1) := by decide +kernel
theorem dX11_init_33 : decode cX11_init 33 = .ok (.new 21, 3) := by decide +kernel
theorem dX11_init_36 : decode cX11_init 36 = .ok (.dup, 1) := by decide +kernel
theorem dX11_init_37 : decode cX11_init 37 = .ok (.invokespecial 23, 3) := by decide +kernel
theorem dX11_init_40 : decode cX11_init 40 = .ok (.putfield 24, 3) := by decide +kernel
theorem dX11_init_43 : decode cX11_init 43 = .ok (.aload_n 0, 1) := by decide +kernel
theorem dX11_init_44 : decode cX11_init 44 = .ok (.new 21, 3) := by decide +kernel
theorem dX11_init_47 : decode cX11_init 47 = .ok (.dup, 1) := by decide +kernel
theorem dX11_init_48 : decode cX11_init 48 = .ok (.invokespecial 23, 3) := by decide +kernel
theorem dX11_init_51 : decode cX11_init 51 = .ok (.putfield 28, 3) := by decide +kernel
theorem dX11_init_54 : decode cX11_init 54 = .ok (.aload_n 0, 1) := by decide +kernel
theorem dX11_init_55 : decode cX11_init 55 = .ok (.new 31, 3) := by decide +kernel
theorem dX11_init_58 : decode cX11_init 58 = .ok (.dup, 1) := by decide +kernel
theorem dX11_init_59 : decode cX11_init 59 = .ok (.invokespecial 33, 3) := by decide +kernel
theorem dX11_init_62 : decode cX11_init 62 = .ok (.putfield 34, 3) := by decide +kernel
theorem dX11_init_65 : decode cX11_init 65 = .ok (.aload_n 0, 1) := by decide +kernel
theorem dX11_init_66 : decode cX11_init 66 = .ok (.new 38, 3) := by decide +kernel
theorem dX11_init_69 : decode cX11_init 69 = .ok (.dup, 1) := by decide +kernel
theorem dX11_init_70 : decode cX11_init 70 = .ok (.invokespecial 40, 3) := by decide +kernel
theorem dX11_init_73 : decode cX11_init 73 = .ok (.putfield 41, 3) := by decide +kernel
theorem dX11_init_76 : decode cX11_init 76 = .ok (.aload_n 0, 1) := by decide +kernel
theorem dX11_init_77 : decode cX11_init 77 = .ok (.new 45, 3) := by decide +kernel
theorem dX11_init_80 : decode cX11_init 80 = .ok (.dup, 1) := by decide +kernel
theorem dX11_init_81 : decode cX11_init 81 = .ok (.aload_n 0, 1) := by decide +kernel
theorem dX11_init_82 : decode cX11_init 82 = .ok (.getfield 24, 3) := by decide +kernel
theorem dX11_init_85 : decode cX11_init 85 = .ok (.aload_n 0, 1) := by decide +kernel
theorem dX11_init_86 : decode cX11_init 86 = .ok (.getfield 41, 3) := by decide +kernel
theorem dX11_init_89 : decode cX11_init 89 = .ok (.invokespecial 47, 3) := by decide +kernel
theorem dX11_init_92 : decode cX11_init 92 = .ok (.putfield 50, 3) := by decide +kernel
theorem dX11_init_95 : decode cX11_init 95 = .ok (.aload_n 0, 1) := by decide +kernel
theorem dX11_init_96 : decode cX11_init 96 = .ok (.new 54, 3) := by decide +kernel
theorem dX11_init_99 : decode cX11_init 99 = .ok (.dup, 1) := by decide +kernel
theorem dX11_init_100 : decode cX11_init 100 = .ok (.aload_n 0, 1) := by decide +kernel
theorem dX11_init_101 : decode cX11_init 101 = .ok (.getfield 24, 3) := by decide +kernel
theorem dX11_init_104 : decode cX11_init 104 = .ok (.invokespecial 56, 3) := by decide +kernel
theorem dX11_init_107 : decode cX11_init 107 = .ok (.putfield 59, 3) := by decide +kernel
theorem dX11_init_110 : decode cX11_init 110 = .ok (.aload_n 0, 1) := by decide +kernel
theorem dX11_init_111 : decode cX11_init 111 = .ok (.new 63, 3) := by decide +kernel
theorem dX11_init_114 : decode cX11_init 114 = .ok (.dup, 1) := by decide +kernel
theorem dX11_init_115 : decode cX11_init 115 = .ok (.aload_n 0, 1) := by decide +kernel
theorem dX11_init_116 : decode cX11_init 116 = .ok (.getfield 24, 3) := by decide +kernel
theorem dX11_init_119 : decode cX11_init 119 = .ok (.aload_n 0, 1) := by decide +kernel
theorem dX11_init_120 : decode cX11_init 120 = .ok (.getfield 50, 3) := by decide +kernel
theorem dX11_init_123 : decode cX11_init 123 = .ok (.invokespecial 65, 3) := by decide +kernel
theorem dX11_init_126 : decode cX11_init 126 = .ok (.putfield 68, 3) := by decide +kernel
theorem dX11_init_129 : decode cX11_init 129 = .ok (.aload_n 0, 1) := by decide +kernel
theorem dX11_init_130 : decode cX11_init 130 = .ok (.new 72, 3) := by decide +kernel
theorem dX11_init_133 : decode cX11_init 133 = .ok (.dup, 1) := by decide +kernel
theorem dX11_init_134 : decode cX11_init 134 = .ok (.aload_n 0, 1) := by decide +kernel
theorem dX11_init_135 : decode cX11_init 135 = .ok (.getfield 24, 3) := by decide +kernel
theorem dX11_init_138 : decode cX11_init 138 = .ok (.aload_n 0, 1) := by decide +kernel
theorem dX11_init_139 : decode cX11_init 139 = .ok (.getfield 41, 3) := by decide +kernel
theorem dX11_init_142 : decode cX11_init 142 = .ok (.aload_n 0, 1) := by decide +kernel
theorem dX11_init_143 : decode cX11_init 143 = .ok (.getfield 50, 3) := by decide +kernel
theorem dX11_init_146 : decode cX11_init 146 = .ok (.invokespecial 74, 3) := by decide +kernel
theorem dX11_init_149 : decode cX11_init 149 = .ok (.putfield 77, 3) := by decide +kernel
theorem dX11_init_152 : decode cX11_init 152 = .ok (.aload_n 0, 1) := by decide +kernel
theorem dX11_init_153 : decode cX11_init 153 = .ok (.new 81, 3) := by decide +kernel
theorem dX11_init_156 : decode cX11_init 156 = .ok (.dup, 1) := by decide +kernel
theorem dX11_init_157 : decode cX11_init 157 = .ok (.aload_n 0, 1) := by decide +kernel
theorem dX11_init_158 : decode cX11_init 158 = .ok (.getfield 24, 3) := by decide +kernel
theorem dX11_init_161 : decode cX11_init 161 = .ok (.aload_n 0, 1) := by decide +kernel
theorem dX11_init_162 : decode cX11_init 162 = .ok (.getfield 41, 3) := by decide +kernel
theorem dX11_init_165 : decode cX11_init 165 = .ok (.aload_n 0, 1) := by decide +kernel
theorem dX11_init_166 : decode cX11_init 166 = .ok (.getfield 50, 3) := by decide +kernel
theorem dX11_init_169 : decode cX11_init 169 = .ok (.invokespecial 83, 3) := by decide +kernel
theorem dX11_init_172 : decode cX11_init 172 = .ok (.putfield 84, 3) := by decide +kernel
theorem dX11_init_175 : decode cX11_init 175 = .ok (.aload_n 0, 1) := by decide +kernel
theorem dX11_init_176 : decode cX11_init 176 = .ok (.new 88, 3) := by decide +kernel
theorem dX11_init_179 : decode cX11_init 179 = .ok (.dup, 1) := by decide +kernel
theorem dX11_init_180 : decode cX11_init 180 = .ok (.aload_n 0, 1) := by decide +kernel
theorem dX11_init_181 : decode cX11_init 181 = .ok (.getfield 50, 3) := by decide +kernel
theorem dX11_init_184 : decode cX11_init 184 = .ok (.invokespecial 90, 3) := by decide +kernel
theorem dX11_init_187 : decode cX11_init 187 = .ok (.putfield 93, 3) := by decide +kernel
theorem dX11_init_190 : decode cX11_init 190 = .ok (.aload_n 0, 1) := by decide +kernel
theorem dX11_init_191 : decode cX11_init 191 = .ok (.sipush 4096, 3) := by decide +kernel
theorem dX11_init_194 : decode cX11_init 194 = .ok (.newarray .int, 2) := by decide +kernel
theorem dX11_init_196 : decode cX11_init 196 = .ok (.putfield 97, 3) := by decide +kernel
theorem dX11_init_199 : decode cX11_init 199 = .ok (.aload_n 0, 1) := by decide +kernel
theorem dX11_init_200 : decode cX11_init 200 = .ok (.bipush 60, 2) := by decide +kernel
theorem dX11_init_202 : decode cX11_init 202 = .ok (.anewarray 101, 3) := by decide +kernel
theorem dX11_init_205 : decode cX11_init 205 = .ok (.putfield 103, 3) := by decide +kernel
theorem dX11_init_208 : decode cX11_init 208 = .ok (.aload_n 0, 1) := by decide +kernel
theorem dX11_init_209 : decode cX11_init 209 = .ok (.bipush 60, 2) := by decide +kernel
theorem dX11_init_211 : decode cX11_init 211 = .ok (.newarray .boolean, 2) := by decide +kernel
theorem dX11_init_213 : decode cX11_init 213 = .ok (.putfield 107, 3) := by decide +kernel
theorem dX11_init_216 : decode cX11_init 216 = .ok (.aload_n 0, 1) := by decide +kernel
theorem dX11_init_217 : decode cX11_init 217 = .ok (.sipush 2408, 3) := by decide +kernel
theorem dX11_init_220 : decode cX11_init 220 = .ok (.anewarray 101, 3) := by decide +kernel
theorem dX11_init_223 : decode cX11_init 223 = .ok (.putfield 111, 3) := by decide +kernel
theorem dX11_init_226 : decode cX11_init 226 = .ok (.aload_n 0, 1) := by decide +kernel
theorem dX11_init_227 : decode cX11_init 227 = .ok (.sipush 2408, 3) := by decide +kernel
theorem dX11_init_230 : decode cX11_init 230 = .ok (.newarray .int, 2) := by decide +kernel
theorem dX11_init_232 : decode cX11_init 232 = .ok (.putfield 114, 3) := by decide +kernel
theorem dX11_init_235 : decode cX11_init 235 = .ok (.aload_n 0, 1) := by decide +kernel
theorem dX11_init_236 : decode cX11_init 236 = .ok (.bipush 8, 2) := by decide +kernel
theorem dX11_init_238 : decode cX11_init 238 = .ok (.newarray .int, 2) := by decide +kernel
theorem dX11_init_240 : decode cX11_init 240 = .ok (.putfield 117, 3) := by decide +kernel
theorem dX11_init_243 : decode cX11_init 243 = .ok (.iconst 0, 1) := by decide +kernel
theorem dX11_init_244 : decode cX11_init 244 = .ok (.istore_n 1, 1) := by decide +kernel
theorem dX11_init_245 : decode cX11_init 245 = .ok (.iload_n 1, 1) := by decide +kernel
theorem dX11_init_246 : decode cX11_init 246 = .ok (.bipush 60, 2) := by decide +kernel
theorem dX11_init_248 : decode cX11_init 248 = .ok (.if_icmp .ge 22, 3) := by decide +kernel
theorem dX11_init_251 : decode cX11_init 251 = .ok (.aload_n 0, 1) := by decide +kernel
theorem dX11_init_252 : decode cX11_init 252 = .ok (.getfield 103, 3) := by decide +kernel
theorem dX11_init_255 : decode cX11_init 255 = .ok (.iload_n 1, 1) := by decide +kernel
theorem dX11_init_256 : decode cX11_init 256 = .ok (.new 101, 3) := by decide +kernel
theorem dX11_init_259 : decode cX11_init 259 = .ok (.dup, 1) := by decide +kernel
theorem dX11_init_260 : decode cX11_init 260 = .ok (.invokespecial 120, 3) := by decide +kernel
theorem dX11_init_263 : decode cX11_init 263 = .ok (.aastore, 1) := by decide +kernel
theorem dX11_init_264 : decode cX11_init 264 = .ok (.iinc 1 1, 3) := by decide +kernel
theorem dX11_init_267 : decode cX11_init 267 = .ok (.goto (-22), 3) := by decide +kernel
theorem dX11_init_270 : decode cX11_init 270 = .ok (.aload_n 0, 1) := by decide +kernel
theorem dX11_init_271 : decode cX11_init 271 = .ok (.getfield 117, 3) := by decide +kernel
theorem dX11_init_274 : decode cX11_init 274 = .ok (.iconst (-1), 1) := by decide +kernel
theorem dX11_init_275 : decode cX11_init 275 = .ok (.invokestatic 121, 3) := by decide +kernel
theorem dX11_init_278 : decode cX11_init 278 = .ok (.aload_n 0, 1) := by decide +kernel
theorem dX11_init_279 : decode cX11_init 279 = .ok (.getfield 14, 3) := by decide +kernel
theorem dX11_init_282 : decode cX11_init 282 = .ok (.ldc 127, 2) := by decide +kernel
theorem dX11_init_284 : decode cX11_init 284 = .ok (.invokevirtual 129, 3) := by decide +kernel
theorem dX11_init_287 : decode cX11_init 287 = .ok (.aload_n 0, 1) := by decide +kernel
theorem dX11_init_288 : decode cX11_init 288 = .ok (.getfield 14, 3) := by decide +kernel
theorem dX11_init_291 : decode cX11_init 291 = .ok (.ldc 133, 2) := by decide +kernel
theorem dX11_init_293 : decode cX11_init 293 = .ok (.invokevirtual 129, 3) := by decide +kernel
theorem dX11_init_296 : decode cX11_init 296 = .ok (.aload_n 0, 1) := by decide +kernel
theorem dX11_init_297 : decode cX11_init 297 = .ok (.getfield 14, 3) := by decide +kernel
theorem dX11_init_300 : decode cX11_init 300 = .ok (.ldc 135, 2) := by decide +kernel
theorem dX11_init_302 : decode cX11_init 302 = .ok (.invokevirtual 129, 3) := by decide +kernel
theorem dX11_init_305 : decode cX11_init 305 = .ok (.aload_n 0, 1) := by decide +kernel
theorem dX11_init_306 : decode cX11_init 306 = .ok (.getfield 34, 3) := by decide +kernel
theorem dX11_init_309 : decode cX11_init 309 = .ok (.aload_n 0, 1) := by decide +kernel
theorem dX11_init_310 : decode cX11_init 310 = .ok (.getfield 14, 3) := by decide +kernel
theorem dX11_init_313 : decode cX11_init 313 = .ok (.aload_n 0, 1) := by decide +kernel
theorem dX11_init_314 : decode cX11_init 314 = .ok (.getfield 24, 3) := by decide +kernel
theorem dX11_init_317 : decode cX11_init 317 = .ok (.invokevirtual 137, 3) := by decide +kernel
theorem dX11_init_320 : decode cX11_init 320 = .ok (.pop, 1) := by decide +kernel
theorem dX11_init_321 : decode cX11_init 321 = .ok (.aload_n 0, 1) := by decide +kernel
theorem dX11_init_322 : decode cX11_init 322 = .ok (.getfield 41, 3) := by decide +kernel
theorem dX11_init_325 : decode cX11_init 325 = .ok (.aload_n 0, 1) := by decide +kernel
theorem dX11_init_326 : decode cX11_init 326 = .ok (.getfield 24, 3) := by decide +kernel
theorem dX11_init_329 : decode cX11_init 329 = .ok (.invokevirtual 141, 3) := by decide +kernel
theorem dX11_init_332 : decode cX11_init 332 = .ok (.aload_n 0, 1) := by decide +kernel
theorem dX11_init_333 : decode cX11_init 333 = .ok (.getfield 14, 3) := by decide +kernel
theorem dX11_init_336 : decode cX11_init 336 = .ok (.invokevirtual 144, 3) := by decide +kernel
theorem dX11_init_339 : decode cX11_init 339 = .ok (.return_, 1) := by decide +kernel
set_option maxRecDepth 20000 in
theorem moX11_init_339 {o : Hp} {F : Nat} {h : Hp} (hE : sX11_init_339 F h  = some o) : Le h o := by
  exact le_some1 hE
set_option maxRecDepth 20000 in
theorem moX11_init_332 {o : Hp} {F : Nat} {h : Hp} {x0 : Nat} (hE : sX11_init_332 F h x0 = some o) : Le h o := by
  obtain ⟨r_1, er_1, hE⟩ := cl_e hE
  obtain ⟨o_2, eo_2, hE⟩ := cl_e hE
  refine (moX9_clear eo_2).tr ?_
  exact moX11_init_339 hE
set_option maxRecDepth 20000 in
theorem moX11_init_320 {o : Hp} {F : Nat} {h : Hp} {x0 : Nat} {t0 : Int32} (hE : sX11_init_320 F h x0 t0 = some o) : Le h o := by
  obtain ⟨r_1, er_1, hE⟩ := cl_e hE
  obtain ⟨r_2, er_2, hE⟩ := cl_e hE
  obtain ⟨o_3, eo_3, hE⟩ := cl_e hE
  refine (moX10_lay eo_3).tr ?_
  exact moX11_init_332 hE
set_option maxRecDepth 20000 in
theorem moX11_init_305 {o : Hp} {F : Nat} {h : Hp} {x0 : Nat} (hE : sX11_init_305 F h x0 = some o) : Le h o := by
  obtain ⟨r_1, er_1, hE⟩ := cl_e hE
  obtain ⟨r_2, er_2, hE⟩ := cl_e hE
  obtain ⟨r_3, er_3, hE⟩ := cl_e hE
  obtain ⟨o_4, eo_4, hE⟩ := cl_e hE
  refine (moX2_read eo_4).tr ?_
  exact moX11_init_320 hE
set_option maxRecDepth 20000 in
theorem moX11_init_296 {o : Hp} {F : Nat} {h : Hp} {x0 : Nat} (hE : sX11_init_296 F h x0 = some o) : Le h o := by
  obtain ⟨r_1, er_1, hE⟩ := cl_e hE
  obtain ⟨o_2, eo_2, hE⟩ := cl_e hE
  refine (moX9_appendAll eo_2).tr ?_
  exact moX11_init_305 hE
set_option maxRecDepth 20000 in
theorem moX11_init_287 {o : Hp} {F : Nat} {h : Hp} {x0 : Nat} (hE : sX11_init_287 F h x0 = some o) : Le h o := by
  obtain ⟨r_1, er_1, hE⟩ := cl_e hE
  obtain ⟨o_2, eo_2, hE⟩ := cl_e hE
  refine (moX9_appendAll eo_2).tr ?_
  exact moX11_init_296 hE
set_option maxRecDepth 20000 in
theorem moX11_init_278 {o : Hp} {F : Nat} {h : Hp} {x0 : Nat} (hE : sX11_init_278 F h x0 = some o) : Le h o := by
  obtain ⟨r_1, er_1, hE⟩ := cl_e hE
  obtain ⟨o_2, eo_2, hE⟩ := cl_e hE
  refine (moX9_appendAll eo_2).tr ?_
  exact moX11_init_287 hE
set_option maxRecDepth 20000 in
theorem moX11_init_263 {o : Hp} {k_245 : Hp → Nat → Int32 → Option (Hp)} {F : Nat} (mk_245 : ∀ (h : Hp) (x0 : Nat) (x1 : Int32), k_245 h x0 x1 = some o → Le h o) {h : Hp} {x0 : Nat} {x1 : Int32} {t0 : Nat} {t1 : Int32} {t2 : Nat} (hE : sX11_init_263 F k_245 h x0 x1 t0 t1 t2 = some o) : Le h o := by
  obtain ⟨g_1, hE⟩ := gd_e hE
  obtain ⟨h_2, eh_2, hE⟩ := nm_e2 hE
  refine (le_R eh_2).tr ?_
  obtain ⟨v_3, ev_3, hE⟩ := nm_e2 hE
  exact mk_245 _ _ _ hE
set_option maxRecDepth 20000 in
theorem moX11_init_259 {o : Hp} {k_245 : Hp → Nat → Int32 → Option (Hp)} {F : Nat} (mk_245 : ∀ (h : Hp) (x0 : Nat) (x1 : Int32), k_245 h x0 x1 = some o → Le h o) {h : Hp} {x0 : Nat} {x1 : Int32} {t0 : Nat} {t1 : Int32} {t2 : Nat} (hE : sX11_init_259 F k_245 h x0 x1 t0 t1 t2 = some o) : Le h o := by
  obtain ⟨o_1, eo_1, hE⟩ := cl_e hE
  refine (moX3_init eo_1).tr ?_
  exact moX11_init_263 mk_245 hE
set_option maxRecDepth 20000 in
theorem moX11_init_245 {o : Hp} {F : Nat} : ∀ (f : Nat) {h : Hp} {x0 : Nat} {x1 : Int32}, sX11_init_245 F f h x0 x1 = some o → Le h o := by
  intro f
  induction f with
  | zero =>
    intro h x0 x1 hE
    rw [sX11_init_245] at hE
    cases hE
  | succ f ih =>
    intro h x0 x1 hE
    rw [sX11_init_245] at hE
    have mk_245 : ∀ (h : Hp) (x0 : Nat) (x1 : Int32), sX11_init_245 F f h x0 x1 = some o → Le h o := fun h x0 x1 hE => ih hE
    rcases br_e hE with ⟨_, hE⟩ | ⟨_, hE⟩
    · obtain ⟨r_2, er_2, hE⟩ := cl_e hE
      obtain ⟨o_3, eo_3, hE⟩ := cl_e hE
      refine (moJ7_fill_53178 eo_3).tr ?_
      exact moX11_init_278 hE
    · obtain ⟨r_4, er_4, hE⟩ := cl_e hE
      obtain ⟨a_5, ea_5, hE⟩ := nm_e2 hE
      obtain ⟨h_6, eh_6, hE⟩ := nm_e2 hE
      refine (le_C eh_6).tr ?_
      exact moX11_init_259 mk_245 hE
set_option maxRecDepth 20000 in
theorem moX11_init_240 {o : Hp} {F : Nat} {h : Hp} {x0 : Nat} {t0 : Nat} {t1 : Nat} (hE : sX11_init_240 F h x0 t0 t1 = some o) : Le h o := by
  obtain ⟨h_1, eh_1, hE⟩ := nm_e2 hE
  refine (le_R eh_1).tr ?_
  exact moX11_init_245 _ hE
set_option maxRecDepth 20000 in
theorem moX11_init_232 {o : Hp} {F : Nat} {h : Hp} {x0 : Nat} {t0 : Nat} {t1 : Nat} (hE : sX11_init_232 F h x0 t0 t1 = some o) : Le h o := by
  obtain ⟨h_1, eh_1, hE⟩ := nm_e2 hE
  refine (le_R eh_1).tr ?_
  obtain ⟨a_2, ea_2, hE⟩ := nm_e2 hE
  obtain ⟨h_3, eh_3, hE⟩ := nm_e2 hE
  refine (le_C eh_3).tr ?_
  exact moX11_init_240 hE
set_option maxRecDepth 20000 in
theorem moX11_init_223 {o : Hp} {F : Nat} {h : Hp} {x0 : Nat} {t0 : Nat} {t1 : Nat} (hE : sX11_init_223 F h x0 t0 t1 = some o) : Le h o := by
  obtain ⟨h_1, eh_1, hE⟩ := nm_e2 hE
  refine (le_R eh_1).tr ?_
  obtain ⟨a_2, ea_2, hE⟩ := nm_e2 hE
  obtain ⟨h_3, eh_3, hE⟩ := nm_e2 hE
  refine (le_C eh_3).tr ?_
  exact moX11_init_232 hE
set_option maxRecDepth 20000 in
theorem moX11_init_213 {o : Hp} {F : Nat} {h : Hp} {x0 : Nat} {t0 : Nat} {t1 : Nat} (hE : sX11_init_213 F h x0 t0 t1 = some o) : Le h o := by
  obtain ⟨h_1, eh_1, hE⟩ := nm_e2 hE
  refine (le_R eh_1).tr ?_
  obtain ⟨a_2, ea_2, hE⟩ := nm_e2 hE
  obtain ⟨h_3, eh_3, hE⟩ := nm_e2 hE
  refine (le_C eh_3).tr ?_
  exact moX11_init_223 hE
set_option maxRecDepth 20000 in
theorem moX11_init_205 {o : Hp} {F : Nat} {h : Hp} {x0 : Nat} {t0 : Nat} {t1 : Nat} (hE : sX11_init_205 F h x0 t0 t1 = some o) : Le h o := by
  obtain ⟨h_1, eh_1, hE⟩ := nm_e2 hE
  refine (le_R eh_1).tr ?_
  obtain ⟨a_2, ea_2, hE⟩ := nm_e2 hE
  obtain ⟨h_3, eh_3, hE⟩ := nm_e2 hE
  refine (le_C eh_3).tr ?_
  exact moX11_init_213 hE
set_option maxRecDepth 20000 in
theorem moX11_init_196 {o : Hp} {F : Nat} {h : Hp} {x0 : Nat} {t0 : Nat} {t1 : Nat} (hE : sX11_init_196 F h x0 t0 t1 = some o) : Le h o := by
  obtain ⟨h_1, eh_1, hE⟩ := nm_e2 hE
  refine (le_R eh_1).tr ?_
  obtain ⟨a_2, ea_2, hE⟩ := nm_e2 hE
  obtain ⟨h_3, eh_3, hE⟩ := nm_e2 hE
  refine (le_C eh_3).tr ?_
  exact moX11_init_205 hE
set_option maxRecDepth 20000 in
theorem moX11_init_187 {o : Hp} {F : Nat} {h : Hp} {x0 : Nat} {t0 : Nat} {t1 : Nat} (hE : sX11_init_187 F h x0 t0 t1 = some o) : Le h o := by
  obtain ⟨h_1, eh_1, hE⟩ := nm_e2 hE
  refine (le_R eh_1).tr ?_
  obtain ⟨a_2, ea_2, hE⟩ := nm_e2 hE
  obtain ⟨h_3, eh_3, hE⟩ := nm_e2 hE
  refine (le_C eh_3).tr ?_
  exact moX11_init_196 hE
set_option maxRecDepth 20000 in
theorem moX11_init_179 {o : Hp} {F : Nat} {h : Hp} {x0 : Nat} {t0 : Nat} {t1 : Nat} (hE : sX11_init_179 F h x0 t0 t1 = some o) : Le h o := by
  obtain ⟨r_1, er_1, hE⟩ := cl_e hE
  obtain ⟨o_2, eo_2, hE⟩ := cl_e hE
  refine (moX4_init eo_2).tr ?_
  exact moX11_init_187 hE
set_option maxRecDepth 20000 in
theorem moX11_init_172 {o : Hp} {F : Nat} {h : Hp} {x0 : Nat} {t0 : Nat} {t1 : Nat} (hE : sX11_init_172 F h x0 t0 t1 = some o) : Le h o := by
  obtain ⟨h_1, eh_1, hE⟩ := nm_e2 hE
  refine (le_R eh_1).tr ?_
  obtain ⟨a_2, ea_2, hE⟩ := nm_e2 hE
  obtain ⟨h_3, eh_3, hE⟩ := nm_e2 hE
  refine (le_C eh_3).tr ?_
  exact moX11_init_179 hE
set_option maxRecDepth 20000 in
theorem moX11_init_156 {o : Hp} {F : Nat} {h : Hp} {x0 : Nat} {t0 : Nat} {t1 : Nat} (hE : sX11_init_156 F h x0 t0 t1 = some o) : Le h o := by
  obtain ⟨r_1, er_1, hE⟩ := cl_e hE
  obtain ⟨r_2, er_2, hE⟩ := cl_e hE
  obtain ⟨r_3, er_3, hE⟩ := cl_e hE
  obtain ⟨o_4, eo_4, hE⟩ := cl_e hE
  refine (moX0_init eo_4).tr ?_
  exact moX11_init_172 hE
set_option maxRecDepth 20000 in
theorem moX11_init_149 {o : Hp} {F : Nat} {h : Hp} {x0 : Nat} {t0 : Nat} {t1 : Nat} (hE : sX11_init_149 F h x0 t0 t1 = some o) : Le h o := by
  obtain ⟨h_1, eh_1, hE⟩ := nm_e2 hE
  refine (le_R eh_1).tr ?_
  obtain ⟨a_2, ea_2, hE⟩ := nm_e2 hE
  obtain ⟨h_3, eh_3, hE⟩ := nm_e2 hE
  refine (le_C eh_3).tr ?_
  exact moX11_init_156 hE
set_option maxRecDepth 20000 in
theorem moX11_init_133 {o : Hp} {F : Nat} {h : Hp} {x0 : Nat} {t0 : Nat} {t1 : Nat} (hE : sX11_init_133 F h x0 t0 t1 = some o) : Le h o := by
  obtain ⟨r_1, er_1, hE⟩ := cl_e hE
  obtain ⟨r_2, er_2, hE⟩ := cl_e hE
  obtain ⟨r_3, er_3, hE⟩ := cl_e hE
  obtain ⟨o_4, eo_4, hE⟩ := cl_e hE
  refine (moX6_init eo_4).tr ?_
  exact moX11_init_149 hE
set_option maxRecDepth 20000 in
theorem moX11_init_126 {o : Hp} {F : Nat} {h : Hp} {x0 : Nat} {t0 : Nat} {t1 : Nat} (hE : sX11_init_126 F h x0 t0 t1 = some o) : Le h o := by
  obtain ⟨h_1, eh_1, hE⟩ := nm_e2 hE
  refine (le_R eh_1).tr ?_
  obtain ⟨a_2, ea_2, hE⟩ := nm_e2 hE
  obtain ⟨h_3, eh_3, hE⟩ := nm_e2 hE
  refine (le_C eh_3).tr ?_
  exact moX11_init_133 hE
set_option maxRecDepth 20000 in
theorem moX11_init_114 {o : Hp} {F : Nat} {h : Hp} {x0 : Nat} {t0 : Nat} {t1 : Nat} (hE : sX11_init_114 F h x0 t0 t1 = some o) : Le h o := by
  obtain ⟨r_1, er_1, hE⟩ := cl_e hE
  obtain ⟨r_2, er_2, hE⟩ := cl_e hE
  obtain ⟨o_3, eo_3, hE⟩ := cl_e hE
  refine (moX8_init eo_3).tr ?_
  exact moX11_init_126 hE
set_option maxRecDepth 20000 in
theorem moX11_init_107 {o : Hp} {F : Nat} {h : Hp} {x0 : Nat} {t0 : Nat} {t1 : Nat} (hE : sX11_init_107 F h x0 t0 t1 = some o) : Le h o := by
  obtain ⟨h_1, eh_1, hE⟩ := nm_e2 hE
  refine (le_R eh_1).tr ?_
  obtain ⟨a_2, ea_2, hE⟩ := nm_e2 hE
  obtain ⟨h_3, eh_3, hE⟩ := nm_e2 hE
  refine (le_C eh_3).tr ?_
  exact moX11_init_114 hE
set_option maxRecDepth 20000 in
theorem moX11_init_99 {o : Hp} {F : Nat} {h : Hp} {x0 : Nat} {t0 : Nat} {t1 : Nat} (hE : sX11_init_99 F h x0 t0 t1 = some o) : Le h o := by
  obtain ⟨r_1, er_1, hE⟩ := cl_e hE
  obtain ⟨o_2, eo_2, hE⟩ := cl_e hE
  refine (moX7_init eo_2).tr ?_
  exact moX11_init_107 hE
set_option maxRecDepth 20000 in
theorem moX11_init_92 {o : Hp} {F : Nat} {h : Hp} {x0 : Nat} {t0 : Nat} {t1 : Nat} (hE : sX11_init_92 F h x0 t0 t1 = some o) : Le h o := by
  obtain ⟨h_1, eh_1, hE⟩ := nm_e2 hE
  refine (le_R eh_1).tr ?_
  obtain ⟨a_2, ea_2, hE⟩ := nm_e2 hE
  obtain ⟨h_3, eh_3, hE⟩ := nm_e2 hE
  refine (le_C eh_3).tr ?_
  exact moX11_init_99 hE
set_option maxRecDepth 20000 in
theorem moX11_init_80 {o : Hp} {F : Nat} {h : Hp} {x0 : Nat} {t0 : Nat} {t1 : Nat} (hE : sX11_init_80 F h x0 t0 t1 = some o) : Le h o := by
  obtain ⟨r_1, er_1, hE⟩ := cl_e hE
  obtain ⟨r_2, er_2, hE⟩ := cl_e hE
  obtain ⟨o_3, eo_3, hE⟩ := cl_e hE
  refine (moX5_init eo_3).tr ?_
  exact moX11_init_92 hE
set_option maxRecDepth 20000 in
theorem moX11_init_73 {o : Hp} {F : Nat} {h : Hp} {x0 : Nat} {t0 : Nat} {t1 : Nat} (hE : sX11_init_73 F h x0 t0 t1 = some o) : Le h o := by
  obtain ⟨h_1, eh_1, hE⟩ := nm_e2 hE
  refine (le_R eh_1).tr ?_
  obtain ⟨a_2, ea_2, hE⟩ := nm_e2 hE
  obtain ⟨h_3, eh_3, hE⟩ := nm_e2 hE
  refine (le_C eh_3).tr ?_
  exact moX11_init_80 hE
set_option maxRecDepth 20000 in
theorem moX11_init_69 {o : Hp} {F : Nat} {h : Hp} {x0 : Nat} {t0 : Nat} {t1 : Nat} (hE : sX11_init_69 F h x0 t0 t1 = some o) : Le h o := by
  obtain ⟨o_1, eo_1, hE⟩ := cl_e hE
  refine (moX10_init eo_1).tr ?_
  exact moX11_init_73 hE
set_option maxRecDepth 20000 in
theorem moX11_init_62 {o : Hp} {F : Nat} {h : Hp} {x0 : Nat} {t0 : Nat} {t1 : Nat} (hE : sX11_init_62 F h x0 t0 t1 = some o) : Le h o := by
  obtain ⟨h_1, eh_1, hE⟩ := nm_e2 hE
  refine (le_R eh_1).tr ?_
  obtain ⟨a_2, ea_2, hE⟩ := nm_e2 hE
  obtain ⟨h_3, eh_3, hE⟩ := nm_e2 hE
  refine (le_C eh_3).tr ?_
  exact moX11_init_69 hE
set_option maxRecDepth 20000 in
theorem moX11_init_58 {o : Hp} {F : Nat} {h : Hp} {x0 : Nat} {t0 : Nat} {t1 : Nat} (hE : sX11_init_58 F h x0 t0 t1 = some o) : Le h o := by
  obtain ⟨o_1, eo_1, hE⟩ := cl_e hE
  refine (moX2_init eo_1).tr ?_
  exact moX11_init_62 hE
set_option maxRecDepth 20000 in
theorem moX11_init_51 {o : Hp} {F : Nat} {h : Hp} {x0 : Nat} {t0 : Nat} {t1 : Nat} (hE : sX11_init_51 F h x0 t0 t1 = some o) : Le h o := by
  obtain ⟨h_1, eh_1, hE⟩ := nm_e2 hE
  refine (le_R eh_1).tr ?_
  obtain ⟨a_2, ea_2, hE⟩ := nm_e2 hE
  obtain ⟨h_3, eh_3, hE⟩ := nm_e2 hE
  refine (le_C eh_3).tr ?_
  exact moX11_init_58 hE
set_option maxRecDepth 20000 in
theorem moX11_init_47 {o : Hp} {F : Nat} {h : Hp} {x0 : Nat} {t0 : Nat} {t1 : Nat} (hE : sX11_init_47 F h x0 t0 t1 = some o) : Le h o := by
  obtain ⟨o_1, eo_1, hE⟩ := cl_e hE
  refine (moX1_init eo_1).tr ?_
  exact moX11_init_51 hE
set_option maxRecDepth 20000 in
theorem moX11_init_40 {o : Hp} {F : Nat} {h : Hp} {x0 : Nat} {t0 : Nat} {t1 : Nat} (hE : sX11_init_40 F h x0 t0 t1 = some o) : Le h o := by
  obtain ⟨h_1, eh_1, hE⟩ := nm_e2 hE
  refine (le_R eh_1).tr ?_
  obtain ⟨a_2, ea_2, hE⟩ := nm_e2 hE
  obtain ⟨h_3, eh_3, hE⟩ := nm_e2 hE
  refine (le_C eh_3).tr ?_
  exact moX11_init_47 hE
set_option maxRecDepth 20000 in
theorem moX11_init_36 {o : Hp} {F : Nat} {h : Hp} {x0 : Nat} {t0 : Nat} {t1 : Nat} (hE : sX11_init_36 F h x0 t0 t1 = some o) : Le h o := by
  obtain ⟨o_1, eo_1, hE⟩ := cl_e hE
  refine (moX1_init eo_1).tr ?_
  exact moX11_init_40 hE
set_option maxRecDepth 20000 in
theorem moX11_init_29 {o : Hp} {F : Nat} {h : Hp} {x0 : Nat} {t0 : Nat} {t1 : Nat} (hE : sX11_init_29 F h x0 t0 t1 = some o) : Le h o := by
  obtain ⟨h_1, eh_1, hE⟩ := nm_e2 hE
  refine (le_R eh_1).tr ?_
  obtain ⟨a_2, ea_2, hE⟩ := nm_e2 hE
  obtain ⟨h_3, eh_3, hE⟩ := nm_e2 hE
  refine (le_C eh_3).tr ?_
  exact moX11_init_36 hE
set_option maxRecDepth 20000 in
theorem moX11_init_22 {o : Hp} {F : Nat} {h : Hp} {x0 : Nat} {t0 : Nat} {t1 : Nat} (hE : sX11_init_22 F h x0 t0 t1 = some o) : Le h o := by
  obtain ⟨o_1, eo_1, hE⟩ := cl_e hE
  refine (moX9_init eo_1).tr ?_
  exact moX11_init_29 hE
set_option maxRecDepth 20000 in
theorem moX11_init_15 {o : Hp} {F : Nat} {h : Hp} {x0 : Nat} {t0 : Nat} {t1 : Nat} (hE : sX11_init_15 F h x0 t0 t1 = some o) : Le h o := by
  obtain ⟨h_1, eh_1, hE⟩ := nm_e2 hE
  refine (le_R eh_1).tr ?_
  obtain ⟨a_2, ea_2, hE⟩ := nm_e2 hE
  obtain ⟨h_3, eh_3, hE⟩ := nm_e2 hE
  refine (le_C eh_3).tr ?_
  exact moX11_init_22 hE
set_option maxRecDepth 20000 in
theorem moX11_init_8 {o : Hp} {F : Nat} {h : Hp} {x0 : Nat} {t0 : Nat} {t1 : Nat} (hE : sX11_init_8 F h x0 t0 t1 = some o) : Le h o := by
  obtain ⟨o_1, eo_1, hE⟩ := cl_e hE
  refine (moX9_init eo_1).tr ?_
  exact moX11_init_15 hE
set_option maxRecDepth 20000 in
theorem moX11_init {o : Hp} {F : Nat} {h : Hp} {x0 : Nat} (hE : sX11_init F h x0 = some o) : Le h o := by
  obtain ⟨a_1, ea_1, hE⟩ := nm_e2 hE
  obtain ⟨h_2, eh_2, hE⟩ := nm_e2 hE
  refine (le_C eh_2).tr ?_
  exact moX11_init_8 hE
set_option maxRecDepth 20000 in
theorem bX11_init_339 {p : Program} {l : Launch} {e : Env} {s : State} {m : MethodId} {args : Array Value} {below : List Frame} {meth : Method} {c : Code} {X : Ec} {h0 : Hp} {o : Hp} {F : Nat} (C : Cx X p s m args meth c RX11 cX11_init 2 none "<init>") {h : Hp} {H : Heap} {locs : List Loc} (hkl : Kl h0 h) (hW : Wx X h H) (hZ : va_S (aA (eB X)) s.heap H locs) (ls : Array Slot) (hl : lv_has ls 2 []) (hE : sX11_init_339 F h  = some o) : W p l e (rmA 9 205 h0 o) s m args below meth c H locs (hS h - hS h0) (hL h - hL h0) (MQ below (QVA X h0 o) args s (hS o - hS h0) (hL o - hL h0) (aA (eB X))) (F0 m 339 ls []) := by
  exact x_vretA C rfl hW hZ hkl hE dX11_init_339
set_option maxRecDepth 20000 in
theorem bX11_init_332 {p : Program} {l : Launch} {e : Env} {s : State} {m : MethodId} {args : Array Value} {below : List Frame} {meth : Method} {c : Code} {X : Ec} {h0 : Hp} {o : Hp} {F : Nat} (C : Cx X p s m args meth c RX11 cX11_init 2 none "<init>") {h : Hp} {x0 : Nat} {H : Heap} {locs : List Loc} (k_x0 : hK h x0 = 11) (hkl : Kl h0 h) (hW : Wx X h H) (hZ : va_S (aA (eB X)) s.heap H locs) (ls : Array Slot) (hl : lv_has ls 2 [(0, .ref x0)]) (hE : sX11_init_332 F h x0 = some o) : W p l e (rmA 9 205 h0 o) s m args below meth c H locs (hS h - hS h0) (hL h - hL h0) (MQ below (QVA X h0 o) args s (hS o - hS h0) (hL o - hL h0) (aA (eB X))) (F0 m 332 ls []) := by
  refine lv_aload_n C.1 C.2.1 dX11_init_332 rfl (lv_at hl 0 rfl) ?_
  obtain ⟨r_1, er_1, hE⟩ := cl_e hE
  refine gf_X11_14 C hW k_x0 er_1 dX11_init_333 (fun k_r_1 => ?_)
  obtain ⟨o_2, eo_2, hE⟩ := cl_e hE
  have m1 := moX9_clear eo_2
  have m2 := moX11_init_339 hE
  refine x_kV (o := o_2) (z_runV (As := []) (rest := []) C (ct_X9_clear l X k_r_1 eo_2) cw_X11_144 hW hZ k_r_1 (by decide) rfl rfl rfl hl.1 (Nat.le_of_ble_eq_true rfl) rfl dX11_init_336 ⟨Nat.le_of_ble_eq_true rfl, Nat.le_of_ble_eq_true rfl⟩ (rm_ok0 hkl m1 m2)) hZ (fun _ _ hW km hZ => ?_)
  replace hkl := hkl.tr km.l
  refine x_wc km ?_
  replace k_x0 := km.at k_x0 (by decide)
  exact bX11_init_339 C hkl hW hZ _ (lv_sub hl [] rfl) hE
set_option maxRecDepth 20000 in
theorem bX11_init_320 {p : Program} {l : Launch} {e : Env} {s : State} {m : MethodId} {args : Array Value} {below : List Frame} {meth : Method} {c : Code} {X : Ec} {h0 : Hp} {o : Hp} {F : Nat} (C : Cx X p s m args meth c RX11 cX11_init 2 none "<init>") {h : Hp} {x0 : Nat} {t0 : Int32} {H : Heap} {locs : List Loc} (k_x0 : hK h x0 = 11) (hkl : Kl h0 h) (hW : Wx X h H) (hZ : va_S (aA (eB X)) s.heap H locs) (ls : Array Slot) (hl : lv_has ls 2 [(0, .ref x0)]) (hE : sX11_init_320 F h x0 t0 = some o) : W p l e (rmA 9 205 h0 o) s m args below meth c H locs (hS h - hS h0) (hL h - hL h0) (MQ below (QVA X h0 o) args s (hS o - hS h0) (hL o - hL h0) (aA (eB X))) (F0 m 320 ls [.int t0]) := by
  refine lv_pop C.1 C.2.1 dX11_init_320 rfl ?_
  refine lv_aload_n C.1 C.2.1 dX11_init_321 rfl (lv_at hl 0 rfl) ?_
  obtain ⟨r_1, er_1, hE⟩ := cl_e hE
  refine gf_X11_41 C hW k_x0 er_1 dX11_init_322 (fun k_r_1 => ?_)
  refine lv_aload_n C.1 C.2.1 dX11_init_325 rfl (lv_at hl 0 rfl) ?_
  obtain ⟨r_2, er_2, hE⟩ := cl_e hE
  refine gf_X11_24 C hW k_x0 er_2 dX11_init_326 (fun k_r_2 => ?_)
  obtain ⟨o_3, eo_3, hE⟩ := cl_e hE
  have m1 := moX10_lay eo_3
  have m2 := moX11_init_332 hE
  refine x_kV (o := o_3) (z_runV (As := [.ref r_2]) (rest := []) C (ct_X10_lay l X F k_r_1 k_r_2 eo_3) cw_X11_141 hW hZ k_r_1 (by decide) rfl rfl rfl hl.1 (Nat.le_of_ble_eq_true rfl) rfl dX11_init_329 ⟨Nat.le_of_ble_eq_true rfl, Nat.le_of_ble_eq_true rfl⟩ (rm_ok0 hkl m1 m2)) hZ (fun _ _ hW km hZ => ?_)
  replace hkl := hkl.tr km.l
  refine x_wc km ?_
  replace k_x0 := km.at k_x0 (by decide)
  exact bX11_init_332 C k_x0 hkl hW hZ _ (lv_sub hl [0] rfl) hE
set_option maxRecDepth 20000 in
theorem bX11_init_305 {p : Program} {l : Launch} {e : Env} {s : State} {m : MethodId} {args : Array Value} {below : List Frame} {meth : Method} {c : Code} {X : Ec} {h0 : Hp} {o : Hp} {F : Nat} (C : Cx X p s m args meth c RX11 cX11_init 2 none "<init>") {h : Hp} {x0 : Nat} {H : Heap} {locs : List Loc} (k_x0 : hK h x0 = 11) (hkl : Kl h0 h) (hW : Wx X h H) (hZ : va_S (aA (eB X)) s.heap H locs) (ls : Array Slot) (hl : lv_has ls 2 [(0, .ref x0)]) (hE : sX11_init_305 F h x0 = some o) : W p l e (rmA 9 205 h0 o) s m args below meth c H locs (hS h - hS h0) (hL h - hL h0) (MQ below (QVA X h0 o) args s (hS o - hS h0) (hL o - hL h0) (aA (eB X))) (F0 m 305 ls []) := by
  refine lv_aload_n C.1 C.2.1 dX11_init_305 rfl (lv_at hl 0 rfl) ?_
  obtain ⟨r_1, er_1, hE⟩ := cl_e hE
  refine gf_X11_34 C hW k_x0 er_1 dX11_init_306 (fun k_r_1 => ?_)
  refine lv_aload_n C.1 C.2.1 dX11_init_309 rfl (lv_at hl 0 rfl) ?_
  obtain ⟨r_2, er_2, hE⟩ := cl_e hE
  refine gf_X11_14 C hW k_x0 er_2 dX11_init_310 (fun k_r_2 => ?_)
  refine lv_aload_n C.1 C.2.1 dX11_init_313 rfl (lv_at hl 0 rfl) ?_
  obtain ⟨r_3, er_3, hE⟩ := cl_e hE
  refine gf_X11_24 C hW k_x0 er_3 dX11_init_314 (fun k_r_3 => ?_)
  obtain ⟨o_4, eo_4, hE⟩ := cl_e hE
  have m1 := moX2_read eo_4
  have m2 := moX11_init_320 hE
  refine x_kI (o := o_4) (z_runV (As := [.ref r_2, .ref r_3]) (rest := []) C (ct_X2_read l X F k_r_1 k_r_2 k_r_3 eo_4) cw_X11_137 hW hZ k_r_1 (by decide) rfl rfl rfl hl.1 (Nat.le_of_ble_eq_true rfl) rfl dX11_init_317 ⟨Nat.le_of_ble_eq_true rfl, Nat.le_of_ble_eq_true rfl⟩ (rm_ok0 hkl m1 m2)) hZ (fun _ _ hW km hZ => ?_)
  replace hkl := hkl.tr km.l
  refine x_wc km ?_
  replace k_x0 := km.at k_x0 (by decide)
  exact bX11_init_320 C k_x0 hkl hW hZ _ (lv_sub hl [0] rfl) hE
set_option maxRecDepth 20000 in
theorem bX11_init_296 {p : Program} {l : Launch} {e : Env} {s : State} {m : MethodId} {args : Array Value} {below : List Frame} {meth : Method} {c : Code} {X : Ec} {h0 : Hp} {o : Hp} {F : Nat} (C : Cx X p s m args meth c RX11 cX11_init 2 none "<init>") {h : Hp} {x0 : Nat} {H : Heap} {locs : List Loc} (k_x0 : hK h x0 = 11) (hkl : Kl h0 h) (hW : Wx X h H) (hZ : va_S (aA (eB X)) s.heap H locs) (ls : Array Slot) (hl : lv_has ls 2 [(0, .ref x0)]) (hE : sX11_init_296 F h x0 = some o) : W p l e (rmA 9 205 h0 o) s m args below meth c H locs (hS h - hS h0) (hL h - hL h0) (MQ below (QVA X h0 o) args s (hS o - hS h0) (hL o - hL h0) (aA (eB X))) (F0 m 296 ls []) := by
  refine lv_aload_n C.1 C.2.1 dX11_init_296 rfl (lv_at hl 0 rfl) ?_
  obtain ⟨r_1, er_1, hE⟩ := cl_e hE
  refine gf_X11_14 C hW k_x0 er_1 dX11_init_297 (fun k_r_1 => ?_)
  refine va_ldcS C.1 C.2.1 C.2.2.2.1 (C.2.2.2.2.2.2.2.2.1 2 (by decide)).2 dX11_init_300 ?_
  obtain ⟨o_2, eo_2, hE⟩ := cl_e hE
  have m1 := moX9_appendAll eo_2
  have m2 := moX11_init_305 hE
  refine x_kV (o := o_2) (z_runV (As := [.ref (X.2.2.2.1 2)]) (rest := []) C (ct_X9_appendAll l X F k_r_1 (by decide) eo_2) cw_X11_129 hW hZ k_r_1 (by decide) rfl rfl rfl hl.1 (Nat.le_of_ble_eq_true rfl) rfl dX11_init_302 ⟨Nat.le_of_ble_eq_true rfl, Nat.le_of_ble_eq_true rfl⟩ (rm_ok0 hkl m1 m2)) hZ (fun _ _ hW km hZ => ?_)
  replace hkl := hkl.tr km.l
  refine x_wc km ?_
  replace k_x0 := km.at k_x0 (by decide)
  exact bX11_init_305 C k_x0 hkl hW hZ _ (lv_sub hl [0] rfl) hE
set_option maxRecDepth 20000 in
theorem bX11_init_287 {p : Program} {l : Launch} {e : Env} {s : State} {m : MethodId} {args : Array Value} {below : List Frame} {meth : Method} {c : Code} {X : Ec} {h0 : Hp} {o : Hp} {F : Nat} (C : Cx X p s m args meth c RX11 cX11_init 2 none "<init>") {h : Hp} {x0 : Nat} {H : Heap} {locs : List Loc} (k_x0 : hK h x0 = 11) (hkl : Kl h0 h) (hW : Wx X h H) (hZ : va_S (aA (eB X)) s.heap H locs) (ls : Array Slot) (hl : lv_has ls 2 [(0, .ref x0)]) (hE : sX11_init_287 F h x0 = some o) : W p l e (rmA 9 205 h0 o) s m args below meth c H locs (hS h - hS h0) (hL h - hL h0) (MQ below (QVA X h0 o) args s (hS o - hS h0) (hL o - hL h0) (aA (eB X))) (F0 m 287 ls []) := by
  refine lv_aload_n C.1 C.2.1 dX11_init_287 rfl (lv_at hl 0 rfl) ?_
  obtain ⟨r_1, er_1, hE⟩ := cl_e hE
  refine gf_X11_14 C hW k_x0 er_1 dX11_init_288 (fun k_r_1 => ?_)
  refine va_ldcS C.1 C.2.1 C.2.2.2.1 (C.2.2.2.2.2.2.2.2.1 1 (by decide)).2 dX11_init_291 ?_
  obtain ⟨o_2, eo_2, hE⟩ := cl_e hE
  have m1 := moX9_appendAll eo_2
  have m2 := moX11_init_296 hE
  refine x_kV (o := o_2) (z_runV (As := [.ref (X.2.2.2.1 1)]) (rest := []) C (ct_X9_appendAll l X F k_r_1 (by decide) eo_2) cw_X11_129 hW hZ k_r_1 (by decide) rfl rfl rfl hl.1 (Nat.le_of_ble_eq_true rfl) rfl dX11_init_293 ⟨Nat.le_of_ble_eq_true rfl, Nat.le_of_ble_eq_true rfl⟩ (rm_ok0 hkl m1 m2)) hZ (fun _ _ hW km hZ => ?_)
  replace hkl := hkl.tr km.l
  refine x_wc km ?_
  replace k_x0 := km.at k_x0 (by decide)
  exact bX11_init_296 C k_x0 hkl hW hZ _ (lv_sub hl [0] rfl) hE
set_option maxRecDepth 20000 in
theorem bX11_init_278 {p : Program} {l : Launch} {e : Env} {s : State} {m : MethodId} {args : Array Value} {below : List Frame} {meth : Method} {c : Code} {X : Ec} {h0 : Hp} {o : Hp} {F : Nat} (C : Cx X p s m args meth c RX11 cX11_init 2 none "<init>") {h : Hp} {x0 : Nat} {H : Heap} {locs : List Loc} (k_x0 : hK h x0 = 11) (hkl : Kl h0 h) (hW : Wx X h H) (hZ : va_S (aA (eB X)) s.heap H locs) (ls : Array Slot) (hl : lv_has ls 2 [(0, .ref x0)]) (hE : sX11_init_278 F h x0 = some o) : W p l e (rmA 9 205 h0 o) s m args below meth c H locs (hS h - hS h0) (hL h - hL h0) (MQ below (QVA X h0 o) args s (hS o - hS h0) (hL o - hL h0) (aA (eB X))) (F0 m 278 ls []) := by
  refine lv_aload_n C.1 C.2.1 dX11_init_278 rfl (lv_at hl 0 rfl) ?_
  obtain ⟨r_1, er_1, hE⟩ := cl_e hE
  refine gf_X11_14 C hW k_x0 er_1 dX11_init_279 (fun k_r_1 => ?_)
  refine va_ldcS C.1 C.2.1 C.2.2.2.1 (C.2.2.2.2.2.2.2.2.1 0 (by decide)).2 dX11_init_282 ?_
  obtain ⟨o_2, eo_2, hE⟩ := cl_e hE
  have m1 := moX9_appendAll eo_2
  have m2 := moX11_init_287 hE
  refine x_kV (o := o_2) (z_runV (As := [.ref (X.2.2.2.1 0)]) (rest := []) C (ct_X9_appendAll l X F k_r_1 (by decide) eo_2) cw_X11_129 hW hZ k_r_1 (by decide) rfl rfl rfl hl.1 (Nat.le_of_ble_eq_true rfl) rfl dX11_init_284 ⟨Nat.le_of_ble_eq_true rfl, Nat.le_of_ble_eq_true rfl⟩ (rm_ok0 hkl m1 m2)) hZ (fun _ _ hW km hZ => ?_)
  replace hkl := hkl.tr km.l
  refine x_wc km ?_
  replace k_x0 := km.at k_x0 (by decide)
  exact bX11_init_287 C k_x0 hkl hW hZ _ (lv_sub hl [0] rfl) hE
set_option maxRecDepth 20000 in
theorem bX11_init_263 {p : Program} {l : Launch} {e : Env} {s : State} {m : MethodId} {args : Array Value} {below : List Frame} {meth : Method} {c : Code} {X : Ec} {h0 : Hp} {o : Hp} {k_245 : Hp → Nat → Int32 → Option (Hp)} {F : Nat} (C : Cx X p s m args meth c RX11 cX11_init 2 none "<init>") (hk_245 : ∀ (h : Hp) (x0 : Nat) (x1 : Int32) (H : Heap) (locs : List Loc), hK h x0 = 11 → Kl h0 h → Wx X h H → va_S (aA (eB X)) s.heap H locs → ∀ (ls : Array Slot), lv_has ls 2 [(0, .ref x0), (1, .int x1)] → k_245 h x0 x1 = some o → W p l e (rmA 9 205 h0 o) s m args below meth c H locs (hS h - hS h0) (hL h - hL h0) (MQ below (QVA X h0 o) args s (hS o - hS h0) (hL o - hL h0) (aA (eB X))) (F0 m 245 ls [])) (mk_245 : ∀ (h : Hp) (x0 : Nat) (x1 : Int32), k_245 h x0 x1 = some o → Le h o) {h : Hp} {x0 : Nat} {x1 : Int32} {t0 : Nat} {t1 : Int32} {t2 : Nat} {H : Heap} {locs : List Loc} (k_x0 : hK h x0 = 11) (k_t0 : hK h t0 = 3) (k_t2 : hK h t2 = 20) (hkl : Kl h0 h) (hW : Wx X h H) (hZ : va_S (aA (eB X)) s.heap H locs) (ls : Array Slot) (hl : lv_has ls 2 [(0, .ref x0), (1, .int x1)]) (hE : sX11_init_263 F k_245 h x0 x1 t0 t1 t2 = some o) : W p l e (rmA 9 205 h0 o) s m args below meth c H locs (hS h - hS h0) (hL h - hL h0) (MQ below (QVA X h0 o) args s (hS o - hS h0) (hL o - hL h0) (aA (eB X))) (F0 m 263 ls [.ref t0, .int t1, .ref t2]) := by
  obtain ⟨g_1, hE⟩ := gd_e hE
  obtain ⟨h_2, eh_2, hE⟩ := nm_e2 hE
  refine y_aast (t0 := 4) C hW hZ k_t2 (by decide) (by decide) rfl k_t0 (by decide) rfl (fun _ => rfl) g_1 eh_2 dX11_init_263 (fun _ _ hW km hZ => ?_)
  replace hkl := hkl.tr km.l
  refine x_wc km ?_
  replace k_x0 := km.at k_x0 (by decide)
  obtain ⟨v_3, ev_3, hE⟩ := nm_e2 hE
  refine lv_iinc (v := v_3) (lv' := [(1, .int v_3), (0, .ref x0)]) C.1 C.2.1 dX11_init_264 hl (k := 1) rfl (by rw [ev_3]; rfl) (by decide) rfl (fun ls hl => ?_)
  refine lv_goto (tgt := 245) C.1 C.2.1 dX11_init_267 (by decide) ?_
  exact hk_245 _ _ _ _ _ k_x0 hkl hW hZ _ (lv_sub hl [1, 0] rfl) hE
set_option maxRecDepth 20000 in
theorem bX11_init_259 {p : Program} {l : Launch} {e : Env} {s : State} {m : MethodId} {args : Array Value} {below : List Frame} {meth : Method} {c : Code} {X : Ec} {h0 : Hp} {o : Hp} {k_245 : Hp → Nat → Int32 → Option (Hp)} {F : Nat} (C : Cx X p s m args meth c RX11 cX11_init 2 none "<init>") (hk_245 : ∀ (h : Hp) (x0 : Nat) (x1 : Int32) (H : Heap) (locs : List Loc), hK h x0 = 11 → Kl h0 h → Wx X h H → va_S (aA (eB X)) s.heap H locs → ∀ (ls : Array Slot), lv_has ls 2 [(0, .ref x0), (1, .int x1)] → k_245 h x0 x1 = some o → W p l e (rmA 9 205 h0 o) s m args below meth c H locs (hS h - hS h0) (hL h - hL h0) (MQ below (QVA X h0 o) args s (hS o - hS h0) (hL o - hL h0) (aA (eB X))) (F0 m 245 ls [])) (mk_245 : ∀ (h : Hp) (x0 : Nat) (x1 : Int32), k_245 h x0 x1 = some o → Le h o) {h : Hp} {x0 : Nat} {x1 : Int32} {t0 : Nat} {t1 : Int32} {t2 : Nat} {H : Heap} {locs : List Loc} (k_x0 : hK h x0 = 11) (k_t0 : hK h t0 = 3) (k_t2 : hK h t2 = 20) (hkl : Kl h0 h) (hW : Wx X h H) (hZ : va_S (aA (eB X)) s.heap H locs) (ls : Array Slot) (hl : lv_has ls 2 [(0, .ref x0), (1, .int x1)]) (hE : sX11_init_259 F k_245 h x0 x1 t0 t1 t2 = some o) : W p l e (rmA 9 205 h0 o) s m args below meth c H locs (hS h - hS h0) (hL h - hL h0) (MQ below (QVA X h0 o) args s (hS o - hS h0) (hL o - hL h0) (aA (eB X))) (F0 m 259 ls [.ref t0, .int t1, .ref t2]) := by
  refine lv_dup C.1 C.2.1 dX11_init_259 rfl ?_
  obtain ⟨o_1, eo_1, hE⟩ := cl_e hE
  have m1 := moX3_init eo_1
  have m2 := moX11_init_263 mk_245 hE
  refine x_kVA (o := o_1) hkl (z_runI (As := []) (rest := [.ref t0, .int t1, .ref t2]) C (ct_X3_init l X F k_t0 eo_1) ci_X11_120 hW hZ rfl hl.1 (Nat.le_of_ble_eq_true rfl) rfl dX11_init_260 ⟨Nat.le_of_ble_eq_true rfl, Nat.le_of_ble_eq_true rfl⟩ (rm_ok hkl m1 m2)) hZ (fun _ _ hW km hZ => ?_)
  replace hkl := hkl.tr km
  replace k_x0 := km.at k_x0 (by decide)
  replace k_t0 := km.at k_t0 (by decide)
  replace k_t2 := km.at k_t2 (by decide)
  exact bX11_init_263 C hk_245 mk_245 k_x0 k_t0 k_t2 hkl hW hZ _ (lv_sub hl [0, 1] rfl) hE
set_option maxRecDepth 20000 in
theorem bX11_init_245 {p : Program} {l : Launch} {e : Env} {s : State} {m : MethodId} {args : Array Value} {below : List Frame} {meth : Method} {c : Code} {X : Ec} {h0 : Hp} {o : Hp} {F : Nat} (C : Cx X p s m args meth c RX11 cX11_init 2 none "<init>") : ∀ (f : Nat) {h : Hp} {x0 : Nat} {x1 : Int32} {H : Heap} {locs : List Loc} (k_x0 : hK h x0 = 11), Kl h0 h → Wx X h H → va_S (aA (eB X)) s.heap H locs → ∀ (ls : Array Slot), lv_has ls 2 [(0, .ref x0), (1, .int x1)] → sX11_init_245 F f h x0 x1 = some o → W p l e (rmA 9 205 h0 o) s m args below meth c H locs (hS h - hS h0) (hL h - hL h0) (MQ below (QVA X h0 o) args s (hS o - hS h0) (hL o - hL h0) (aA (eB X))) (F0 m 245 ls []) := by
  intro f
  induction f with
  | zero =>
    intro h x0 x1 H locs k_x0 hkl hW hZ ls hl hE
    rw [sX11_init_245] at hE
    cases hE
  | succ f ih =>
    intro h x0 x1 H locs k_x0 hkl hW hZ ls hl hE
    rw [sX11_init_245] at hE
    have mk_245 : ∀ (h : Hp) (x0 : Nat) (x1 : Int32), sX11_init_245 F f h x0 x1 = some o → Le h o := fun h x0 x1 hE => moX11_init_245 _ hE
    have hk_245 : ∀ (h : Hp) (x0 : Nat) (x1 : Int32) (H : Heap) (locs : List Loc), hK h x0 = 11 → Kl h0 h → Wx X h H → va_S (aA (eB X)) s.heap H locs → ∀ (ls : Array Slot), lv_has ls 2 [(0, .ref x0), (1, .int x1)] → sX11_init_245 F f h x0 x1 = some o → W p l e (rmA 9 205 h0 o) s m args below meth c H locs (hS h - hS h0) (hL h - hL h0) (MQ below (QVA X h0 o) args s (hS o - hS h0) (hL o - hL h0) (aA (eB X))) (F0 m 245 ls []) := fun h x0 x1 H locs k_x0 a b c ls hl hE => ih k_x0 a b c ls hl hE
    refine lv_iload_n C.1 C.2.1 dX11_init_245 rfl (lv_at hl 1 rfl) ?_
    refine lv_bipush (v := (60 : Int32)) C.1 C.2.1 dX11_init_246 (by decide) ?_
    refine lv_icmp_ge (tgt := 270) C.1 C.2.1 dX11_init_248 (by decide) (fun c_1 => ?_) (fun c_1 => ?_)
    · have hE := br_p hE c_1
      refine lv_aload_n C.1 C.2.1 dX11_init_270 rfl (lv_at hl 0 rfl) ?_
      obtain ⟨r_2, er_2, hE⟩ := cl_e hE
      refine gf_X11_117 C hW k_x0 er_2 dX11_init_271 (fun k_r_2 => ?_)
      refine lv_iconst (v := (-1 : Int32)) C.1 C.2.1 dX11_init_274 (by decide) ?_
      obtain ⟨o_3, eo_3, hE⟩ := cl_e hE
      have m1 := moJ7_fill_53178 eo_3
      have m2 := moX11_init_278 hE
      refine x_kV (o := o_3) (z_runS (As := [.ref r_2, .int (-1 : Int32)]) (rest := []) C (ct_J7_fill_53178 l X F k_r_2 eo_3) cw_X11_121 hW hZ rfl hl.1 (Nat.le_of_ble_eq_true rfl) rfl dX11_init_275 ⟨Nat.le_of_ble_eq_true rfl, Nat.le_of_ble_eq_true rfl⟩ (rm_ok0 hkl m1 m2)) hZ (fun _ _ hW km hZ => ?_)
      replace hkl := hkl.tr km.l
      refine x_wc km ?_
      replace k_x0 := km.at k_x0 (by decide)
      exact bX11_init_278 C k_x0 hkl hW hZ _ (lv_sub hl [0] rfl) hE
    · have hE := br_n hE c_1
      refine lv_aload_n C.1 C.2.1 dX11_init_251 rfl (lv_at hl 0 rfl) ?_
      obtain ⟨r_4, er_4, hE⟩ := cl_e hE
      refine gf_X11_103 C hW k_x0 er_4 dX11_init_252 (fun k_r_4 => ?_)
      refine lv_iload_n C.1 C.2.1 dX11_init_255 rfl (lv_at hl 1 rfl) ?_
      obtain ⟨a_5, ea_5, hE⟩ := nm_e2 hE
      obtain ⟨h_6, eh_6, hE⟩ := nm_e2 hE
      refine y_new C hW hZ hkl (moX11_init_259 mk_245 hE) ⟨rfl, rfl⟩ i_X3 tyX3 tyX3_ok (by decide) rfl rfl dv_X3 m_582 m_266 m_8 eh_6 dX11_init_256 (fun _ hW km k_a_5 hZ => ?_)
      replace hkl := hkl.tr km
      refine x_nmA ea_5 ?_
      rw [← ea_5] at k_a_5
      replace k_x0 := km.at k_x0 (by decide)
      replace k_r_4 := km.at k_r_4 (by decide)
      exact bX11_init_259 C hk_245 mk_245 k_x0 k_a_5 k_r_4 hkl hW hZ _ (lv_sub hl [0, 1] rfl) hE
set_option maxRecDepth 20000 in
theorem bX11_init_240 {p : Program} {l : Launch} {e : Env} {s : State} {m : MethodId} {args : Array Value} {below : List Frame} {meth : Method} {c : Code} {X : Ec} {h0 : Hp} {o : Hp} {F : Nat} (C : Cx X p s m args meth c RX11 cX11_init 2 none "<init>") {h : Hp} {x0 : Nat} {t0 : Nat} {t1 : Nat} {H : Heap} {locs : List Loc} (k_x0 : hK h x0 = 11) (k_t0 : hK h t0 = 17) (k_t1 : hK h t1 = 11) (hkl : Kl h0 h) (hW : Wx X h H) (hZ : va_S (aA (eB X)) s.heap H locs) (ls : Array Slot) (hl : lv_has ls 2 [(0, .ref x0)]) (hE : sX11_init_240 F h x0 t0 t1 = some o) : W p l e (rmA 9 205 h0 o) s m args below meth c H locs (hS h - hS h0) (hL h - hL h0) (MQ below (QVA X h0 o) args s (hS o - hS h0) (hL o - hL h0) (aA (eB X))) (F0 m 240 ls [.ref t0, .ref t1]) := by
  obtain ⟨h_1, eh_1, hE⟩ := nm_e2 hE
  refine pf_X11_117 C hW hZ rfl k_t1 k_t0 eh_1 dX11_init_240 (fun _ _ hW km hZ => ?_)
  replace hkl := hkl.tr km.l
  refine x_wc km ?_
  replace k_x0 := km.at k_x0 (by decide)
  refine lv_iconst (v := (0 : Int32)) C.1 C.2.1 dX11_init_243 (by decide) ?_
  refine lv_istore_n (lv' := [(1, .int (0 : Int32)), (0, .ref x0)]) C.1 C.2.1 dX11_init_244 rfl hl (by decide) rfl (fun ls hl => ?_)
  exact bX11_init_245 C F k_x0 hkl hW hZ _ (lv_sub hl [1, 0] rfl) hE
set_option maxRecDepth 20000 in
theorem bX11_init_232 {p : Program} {l : Launch} {e : Env} {s : State} {m : MethodId} {args : Array Value} {below : List Frame} {meth : Method} {c : Code} {X : Ec} {h0 : Hp} {o : Hp} {F : Nat} (C : Cx X p s m args meth c RX11 cX11_init 2 none "<init>") {h : Hp} {x0 : Nat} {t0 : Nat} {t1 : Nat} {H : Heap} {locs : List Loc} (k_x0 : hK h x0 = 11) (k_t0 : hK h t0 = 17) (k_t1 : hK h t1 = 11) (hkl : Kl h0 h) (hW : Wx X h H) (hZ : va_S (aA (eB X)) s.heap H locs) (ls : Array Slot) (hl : lv_has ls 2 [(0, .ref x0)]) (hE : sX11_init_232 F h x0 t0 t1 = some o) : W p l e (rmA 9 205 h0 o) s m args below meth c H locs (hS h - hS h0) (hL h - hL h0) (MQ below (QVA X h0 o) args s (hS o - hS h0) (hL o - hL h0) (aA (eB X))) (F0 m 232 ls [.ref t0, .ref t1]) := by
  obtain ⟨h_1, eh_1, hE⟩ := nm_e2 hE
  refine pf_X11_114 C hW hZ rfl k_t1 k_t0 eh_1 dX11_init_232 (fun _ _ hW km hZ => ?_)
  replace hkl := hkl.tr km.l
  refine x_wc km ?_
  replace k_x0 := km.at k_x0 (by decide)
  refine lv_aload_n C.1 C.2.1 dX11_init_235 rfl (lv_at hl 0 rfl) ?_
  refine lv_bipush (v := (8 : Int32)) C.1 C.2.1 dX11_init_236 (by decide) ?_
  obtain ⟨a_2, ea_2, hE⟩ := nm_e2 hE
  obtain ⟨h_3, eh_3, hE⟩ := nm_e2 hE
  refine y_newa (k := 17) (ty := .int) (t0 := 1) C hW hZ hkl (moX11_init_240 hE) ⟨rfl, rfl⟩ (by decide) (by decide) rfl rfl (by intro C hC; cases hC) hdef_17 m_54 (by decide) (by decide) eh_3 dX11_init_238 (fun _ hW km k_a_2 hZ => ?_)
  replace hkl := hkl.tr km
  refine x_nmA ea_2 ?_
  rw [← ea_2] at k_a_2
  replace k_x0 := km.at k_x0 (by decide)
  exact bX11_init_240 C k_x0 k_a_2 k_x0 hkl hW hZ _ (lv_sub hl [0] rfl) hE
set_option maxRecDepth 20000 in
theorem bX11_init_223 {p : Program} {l : Launch} {e : Env} {s : State} {m : MethodId} {args : Array Value} {below : List Frame} {meth : Method} {c : Code} {X : Ec} {h0 : Hp} {o : Hp} {F : Nat} (C : Cx X p s m args meth c RX11 cX11_init 2 none "<init>") {h : Hp} {x0 : Nat} {t0 : Nat} {t1 : Nat} {H : Heap} {locs : List Loc} (k_x0 : hK h x0 = 11) (k_t0 : hK h t0 = 20) (k_t1 : hK h t1 = 11) (hkl : Kl h0 h) (hW : Wx X h H) (hZ : va_S (aA (eB X)) s.heap H locs) (ls : Array Slot) (hl : lv_has ls 2 [(0, .ref x0)]) (hE : sX11_init_223 F h x0 t0 t1 = some o) : W p l e (rmA 9 205 h0 o) s m args below meth c H locs (hS h - hS h0) (hL h - hL h0) (MQ below (QVA X h0 o) args s (hS o - hS h0) (hL o - hL h0) (aA (eB X))) (F0 m 223 ls [.ref t0, .ref t1]) := by
  obtain ⟨h_1, eh_1, hE⟩ := nm_e2 hE
  refine pf_X11_111 C hW hZ rfl k_t1 k_t0 eh_1 dX11_init_223 (fun _ _ hW km hZ => ?_)
  replace hkl := hkl.tr km.l
  refine x_wc km ?_
  replace k_x0 := km.at k_x0 (by decide)
  refine lv_aload_n C.1 C.2.1 dX11_init_226 rfl (lv_at hl 0 rfl) ?_
  refine lv_sipush (v := (2408 : Int32)) C.1 C.2.1 dX11_init_227 (by decide) ?_
  obtain ⟨a_2, ea_2, hE⟩ := nm_e2 hE
  obtain ⟨h_3, eh_3, hE⟩ := nm_e2 hE
  refine y_newa (k := 17) (ty := .int) (t0 := 1) C hW hZ hkl (moX11_init_232 hE) ⟨rfl, rfl⟩ (by decide) (by decide) rfl rfl (by intro C hC; cases hC) hdef_17 m_54 (by decide) (by decide) eh_3 dX11_init_230 (fun _ hW km k_a_2 hZ => ?_)
  replace hkl := hkl.tr km
  refine x_nmA ea_2 ?_
  rw [← ea_2] at k_a_2
  replace k_x0 := km.at k_x0 (by decide)
  exact bX11_init_232 C k_x0 k_a_2 k_x0 hkl hW hZ _ (lv_sub hl [0] rfl) hE
set_option maxRecDepth 20000 in
theorem bX11_init_213 {p : Program} {l : Launch} {e : Env} {s : State} {m : MethodId} {args : Array Value} {below : List Frame} {meth : Method} {c : Code} {X : Ec} {h0 : Hp} {o : Hp} {F : Nat} (C : Cx X p s m args meth c RX11 cX11_init 2 none "<init>") {h : Hp} {x0 : Nat} {t0 : Nat} {t1 : Nat} {H : Heap} {locs : List Loc} (k_x0 : hK h x0 = 11) (k_t0 : hK h t0 = 19) (k_t1 : hK h t1 = 11) (hkl : Kl h0 h) (hW : Wx X h H) (hZ : va_S (aA (eB X)) s.heap H locs) (ls : Array Slot) (hl : lv_has ls 2 [(0, .ref x0)]) (hE : sX11_init_213 F h x0 t0 t1 = some o) : W p l e (rmA 9 205 h0 o) s m args below meth c H locs (hS h - hS h0) (hL h - hL h0) (MQ below (QVA X h0 o) args s (hS o - hS h0) (hL o - hL h0) (aA (eB X))) (F0 m 213 ls [.ref t0, .ref t1]) := by
  obtain ⟨h_1, eh_1, hE⟩ := nm_e2 hE
  refine pf_X11_107 C hW hZ rfl k_t1 k_t0 eh_1 dX11_init_213 (fun _ _ hW km hZ => ?_)
  replace hkl := hkl.tr km.l
  refine x_wc km ?_
  replace k_x0 := km.at k_x0 (by decide)
  refine lv_aload_n C.1 C.2.1 dX11_init_216 rfl (lv_at hl 0 rfl) ?_
  refine lv_sipush (v := (2408 : Int32)) C.1 C.2.1 dX11_init_217 (by decide) ?_
  obtain ⟨a_2, ea_2, hE⟩ := nm_e2 hE
  obtain ⟨h_3, eh_3, hE⟩ := nm_e2 hE
  refine y_newq (k := 20) (t0 := 4) C hW hZ hkl (moX11_init_223 hE) ⟨rfl, rfl⟩ (by decide) (by decide) rfl m_582 C.2.2.2.2.2.2.2.2.2.2.2.2.2.1 (by decide) (by decide) eh_3 dX11_init_220 (fun _ hW km k_a_2 hZ => ?_)
  replace hkl := hkl.tr km
  refine x_nmA ea_2 ?_
  rw [← ea_2] at k_a_2
  replace k_x0 := km.at k_x0 (by decide)
  exact bX11_init_223 C k_x0 k_a_2 k_x0 hkl hW hZ _ (lv_sub hl [0] rfl) hE
set_option maxRecDepth 20000 in
theorem bX11_init_205 {p : Program} {l : Launch} {e : Env} {s : State} {m : MethodId} {args : Array Value} {below : List Frame} {meth : Method} {c : Code} {X : Ec} {h0 : Hp} {o : Hp} {F : Nat} (C : Cx X p s m args meth c RX11 cX11_init 2 none "<init>") {h : Hp} {x0 : Nat} {t0 : Nat} {t1 : Nat} {H : Heap} {locs : List Loc} (k_x0 : hK h x0 = 11) (k_t0 : hK h t0 = 20) (k_t1 : hK h t1 = 11) (hkl : Kl h0 h) (hW : Wx X h H) (hZ : va_S (aA (eB X)) s.heap H locs) (ls : Array Slot) (hl : lv_has ls 2 [(0, .ref x0)]) (hE : sX11_init_205 F h x0 t0 t1 = some o) : W p l e (rmA 9 205 h0 o) s m args below meth c H locs (hS h - hS h0) (hL h - hL h0) (MQ below (QVA X h0 o) args s (hS o - hS h0) (hL o - hL h0) (aA (eB X))) (F0 m 205 ls [.ref t0, .ref t1]) := by
  obtain ⟨h_1, eh_1, hE⟩ := nm_e2 hE
  refine pf_X11_103 C hW hZ rfl k_t1 k_t0 eh_1 dX11_init_205 (fun _ _ hW km hZ => ?_)
  replace hkl := hkl.tr km.l
  refine x_wc km ?_
  replace k_x0 := km.at k_x0 (by decide)
  refine lv_aload_n C.1 C.2.1 dX11_init_208 rfl (lv_at hl 0 rfl) ?_
  refine lv_bipush (v := (60 : Int32)) C.1 C.2.1 dX11_init_209 (by decide) ?_
  obtain ⟨a_2, ea_2, hE⟩ := nm_e2 hE
  obtain ⟨h_3, eh_3, hE⟩ := nm_e2 hE
  refine y_newa (k := 19) (ty := .boolean) (t0 := 3) C hW hZ hkl (moX11_init_213 hE) ⟨rfl, rfl⟩ (by decide) (by decide) rfl rfl (by intro C hC; cases hC) hdef_19 m_884 (by decide) (by decide) eh_3 dX11_init_211 (fun _ hW km k_a_2 hZ => ?_)
  replace hkl := hkl.tr km
  refine x_nmA ea_2 ?_
  rw [← ea_2] at k_a_2
  replace k_x0 := km.at k_x0 (by decide)
  exact bX11_init_213 C k_x0 k_a_2 k_x0 hkl hW hZ _ (lv_sub hl [0] rfl) hE
set_option maxRecDepth 20000 in
theorem bX11_init_196 {p : Program} {l : Launch} {e : Env} {s : State} {m : MethodId} {args : Array Value} {below : List Frame} {meth : Method} {c : Code} {X : Ec} {h0 : Hp} {o : Hp} {F : Nat} (C : Cx X p s m args meth c RX11 cX11_init 2 none "<init>") {h : Hp} {x0 : Nat} {t0 : Nat} {t1 : Nat} {H : Heap} {locs : List Loc} (k_x0 : hK h x0 = 11) (k_t0 : hK h t0 = 17) (k_t1 : hK h t1 = 11) (hkl : Kl h0 h) (hW : Wx X h H) (hZ : va_S (aA (eB X)) s.heap H locs) (ls : Array Slot) (hl : lv_has ls 2 [(0, .ref x0)]) (hE : sX11_init_196 F h x0 t0 t1 = some o) : W p l e (rmA 9 205 h0 o) s m args below meth c H locs (hS h - hS h0) (hL h - hL h0) (MQ below (QVA X h0 o) args s (hS o - hS h0) (hL o - hL h0) (aA (eB X))) (F0 m 196 ls [.ref t0, .ref t1]) := by
  obtain ⟨h_1, eh_1, hE⟩ := nm_e2 hE
  refine pf_X11_97 C hW hZ rfl k_t1 k_t0 eh_1 dX11_init_196 (fun _ _ hW km hZ => ?_)
  replace hkl := hkl.tr km.l
  refine x_wc km ?_
  replace k_x0 := km.at k_x0 (by decide)
  refine lv_aload_n C.1 C.2.1 dX11_init_199 rfl (lv_at hl 0 rfl) ?_
  refine lv_bipush (v := (60 : Int32)) C.1 C.2.1 dX11_init_200 (by decide) ?_
  obtain ⟨a_2, ea_2, hE⟩ := nm_e2 hE
  obtain ⟨h_3, eh_3, hE⟩ := nm_e2 hE
  refine y_newq (k := 20) (t0 := 4) C hW hZ hkl (moX11_init_205 hE) ⟨rfl, rfl⟩ (by decide) (by decide) rfl m_582 C.2.2.2.2.2.2.2.2.2.2.2.2.2.1 (by decide) (by decide) eh_3 dX11_init_202 (fun _ hW km k_a_2 hZ => ?_)
  replace hkl := hkl.tr km
  refine x_nmA ea_2 ?_
  rw [← ea_2] at k_a_2
  replace k_x0 := km.at k_x0 (by decide)
  exact bX11_init_205 C k_x0 k_a_2 k_x0 hkl hW hZ _ (lv_sub hl [0] rfl) hE
set_option maxRecDepth 20000 in
theorem bX11_init_187 {p : Program} {l : Launch} {e : Env} {s : State} {m : MethodId} {args : Array Value} {below : List Frame} {meth : Method} {c : Code} {X : Ec} {h0 : Hp} {o : Hp} {F : Nat} (C : Cx X p s m args meth c RX11 cX11_init 2 none "<init>") {h : Hp} {x0 : Nat} {t0 : Nat} {t1 : Nat} {H : Heap} {locs : List Loc} (k_x0 : hK h x0 = 11) (k_t0 : hK h t0 = 4) (k_t1 : hK h t1 = 11) (hkl : Kl h0 h) (hW : Wx X h H) (hZ : va_S (aA (eB X)) s.heap H locs) (ls : Array Slot) (hl : lv_has ls 2 [(0, .ref x0)]) (hE : sX11_init_187 F h x0 t0 t1 = some o) : W p l e (rmA 9 205 h0 o) s m args below meth c H locs (hS h - hS h0) (hL h - hL h0) (MQ below (QVA X h0 o) args s (hS o - hS h0) (hL o - hL h0) (aA (eB X))) (F0 m 187 ls [.ref t0, .ref t1]) := by
  obtain ⟨h_1, eh_1, hE⟩ := nm_e2 hE
  refine pf_X11_93 C hW hZ rfl k_t1 k_t0 eh_1 dX11_init_187 (fun _ _ hW km hZ => ?_)
  replace hkl := hkl.tr km.l
  refine x_wc km ?_
  replace k_x0 := km.at k_x0 (by decide)
  refine lv_aload_n C.1 C.2.1 dX11_init_190 rfl (lv_at hl 0 rfl) ?_
  refine lv_sipush (v := (4096 : Int32)) C.1 C.2.1 dX11_init_191 (by decide) ?_
  obtain ⟨a_2, ea_2, hE⟩ := nm_e2 hE
  obtain ⟨h_3, eh_3, hE⟩ := nm_e2 hE
  refine y_newa (k := 17) (ty := .int) (t0 := 1) C hW hZ hkl (moX11_init_196 hE) ⟨rfl, rfl⟩ (by decide) (by decide) rfl rfl (by intro C hC; cases hC) hdef_17 m_54 (by decide) (by decide) eh_3 dX11_init_194 (fun _ hW km k_a_2 hZ => ?_)
  replace hkl := hkl.tr km
  refine x_nmA ea_2 ?_
  rw [← ea_2] at k_a_2
  replace k_x0 := km.at k_x0 (by decide)
  exact bX11_init_196 C k_x0 k_a_2 k_x0 hkl hW hZ _ (lv_sub hl [0] rfl) hE
set_option maxRecDepth 20000 in
theorem bX11_init_179 {p : Program} {l : Launch} {e : Env} {s : State} {m : MethodId} {args : Array Value} {below : List Frame} {meth : Method} {c : Code} {X : Ec} {h0 : Hp} {o : Hp} {F : Nat} (C : Cx X p s m args meth c RX11 cX11_init 2 none "<init>") {h : Hp} {x0 : Nat} {t0 : Nat} {t1 : Nat} {H : Heap} {locs : List Loc} (k_x0 : hK h x0 = 11) (k_t0 : hK h t0 = 4) (k_t1 : hK h t1 = 11) (hkl : Kl h0 h) (hW : Wx X h H) (hZ : va_S (aA (eB X)) s.heap H locs) (ls : Array Slot) (hl : lv_has ls 2 [(0, .ref x0)]) (hE : sX11_init_179 F h x0 t0 t1 = some o) : W p l e (rmA 9 205 h0 o) s m args below meth c H locs (hS h - hS h0) (hL h - hL h0) (MQ below (QVA X h0 o) args s (hS o - hS h0) (hL o - hL h0) (aA (eB X))) (F0 m 179 ls [.ref t0, .ref t1]) := by
  refine lv_dup C.1 C.2.1 dX11_init_179 rfl ?_
  refine lv_aload_n C.1 C.2.1 dX11_init_180 rfl (lv_at hl 0 rfl) ?_
  obtain ⟨r_1, er_1, hE⟩ := cl_e hE
  refine gf_X11_50 C hW k_x0 er_1 dX11_init_181 (fun k_r_1 => ?_)
  obtain ⟨o_2, eo_2, hE⟩ := cl_e hE
  have m1 := moX4_init eo_2
  have m2 := moX11_init_187 hE
  refine x_kVA (o := o_2) hkl (z_runI (As := [.ref r_1]) (rest := [.ref t0, .ref t1]) C (ct_X4_init l X F k_t0 k_r_1 eo_2) ci_X11_90 hW hZ rfl hl.1 (Nat.le_of_ble_eq_true rfl) rfl dX11_init_184 ⟨Nat.le_of_ble_eq_true rfl, Nat.le_of_ble_eq_true rfl⟩ (rm_ok hkl m1 m2)) hZ (fun _ _ hW km hZ => ?_)
  replace hkl := hkl.tr km
  replace k_x0 := km.at k_x0 (by decide)
  replace k_t0 := km.at k_t0 (by decide)
  replace k_t1 := km.at k_t1 (by decide)
  exact bX11_init_187 C k_x0 k_t0 k_t1 hkl hW hZ _ (lv_sub hl [0] rfl) hE
set_option maxRecDepth 20000 in
theorem bX11_init_172 {p : Program} {l : Launch} {e : Env} {s : State} {m : MethodId} {args : Array Value} {below : List Frame} {meth : Method} {c : Code} {X : Ec} {h0 : Hp} {o : Hp} {F : Nat} (C : Cx X p s m args meth c RX11 cX11_init 2 none "<init>") {h : Hp} {x0 : Nat} {t0 : Nat} {t1 : Nat} {H : Heap} {locs : List Loc} (k_x0 : hK h x0 = 11) (k_t0 : hK h t0 = 0) (k_t1 : hK h t1 = 11) (hkl : Kl h0 h) (hW : Wx X h H) (hZ : va_S (aA (eB X)) s.heap H locs) (ls : Array Slot) (hl : lv_has ls 2 [(0, .ref x0)]) (hE : sX11_init_172 F h x0 t0 t1 = some o) : W p l e (rmA 9 205 h0 o) s m args below meth c H locs (hS h - hS h0) (hL h - hL h0) (MQ below (QVA X h0 o) args s (hS o - hS h0) (hL o - hL h0) (aA (eB X))) (F0 m 172 ls [.ref t0, .ref t1]) := by
  obtain ⟨h_1, eh_1, hE⟩ := nm_e2 hE
  refine pf_X11_84 C hW hZ rfl k_t1 k_t0 eh_1 dX11_init_172 (fun _ _ hW km hZ => ?_)
  replace hkl := hkl.tr km.l
  refine x_wc km ?_
  replace k_x0 := km.at k_x0 (by decide)
  refine lv_aload_n C.1 C.2.1 dX11_init_175 rfl (lv_at hl 0 rfl) ?_
  obtain ⟨a_2, ea_2, hE⟩ := nm_e2 hE
  obtain ⟨h_3, eh_3, hE⟩ := nm_e2 hE
  refine y_new C hW hZ hkl (moX11_init_179 hE) ⟨rfl, rfl⟩ i_X4 tyX4 tyX4_ok (by decide) rfl rfl dv_X4 m_518 m_519 m_14 eh_3 dX11_init_176 (fun _ hW km k_a_2 hZ => ?_)
  replace hkl := hkl.tr km
  refine x_nmA ea_2 ?_
  rw [← ea_2] at k_a_2
  replace k_x0 := km.at k_x0 (by decide)
  exact bX11_init_179 C k_x0 k_a_2 k_x0 hkl hW hZ _ (lv_sub hl [0] rfl) hE
set_option maxRecDepth 20000 in
theorem bX11_init_156 {p : Program} {l : Launch} {e : Env} {s : State} {m : MethodId} {args : Array Value} {below : List Frame} {meth : Method} {c : Code} {X : Ec} {h0 : Hp} {o : Hp} {F : Nat} (C : Cx X p s m args meth c RX11 cX11_init 2 none "<init>") {h : Hp} {x0 : Nat} {t0 : Nat} {t1 : Nat} {H : Heap} {locs : List Loc} (k_x0 : hK h x0 = 11) (k_t0 : hK h t0 = 0) (k_t1 : hK h t1 = 11) (hkl : Kl h0 h) (hW : Wx X h H) (hZ : va_S (aA (eB X)) s.heap H locs) (ls : Array Slot) (hl : lv_has ls 2 [(0, .ref x0)]) (hE : sX11_init_156 F h x0 t0 t1 = some o) : W p l e (rmA 9 205 h0 o) s m args below meth c H locs (hS h - hS h0) (hL h - hL h0) (MQ below (QVA X h0 o) args s (hS o - hS h0) (hL o - hL h0) (aA (eB X))) (F0 m 156 ls [.ref t0, .ref t1]) := by
  refine lv_dup C.1 C.2.1 dX11_init_156 rfl ?_
  refine lv_aload_n C.1 C.2.1 dX11_init_157 rfl (lv_at hl 0 rfl) ?_
  obtain ⟨r_1, er_1, hE⟩ := cl_e hE
  refine gf_X11_24 C hW k_x0 er_1 dX11_init_158 (fun k_r_1 => ?_)
  refine lv_aload_n C.1 C.2.1 dX11_init_161 rfl (lv_at hl 0 rfl) ?_
  obtain ⟨r_2, er_2, hE⟩ := cl_e hE
  refine gf_X11_41 C hW k_x0 er_2 dX11_init_162 (fun k_r_2 => ?_)
  refine lv_aload_n C.1 C.2.1 dX11_init_165 rfl (lv_at hl 0 rfl) ?_
  obtain ⟨r_3, er_3, hE⟩ := cl_e hE
  refine gf_X11_50 C hW k_x0 er_3 dX11_init_166 (fun k_r_3 => ?_)
  obtain ⟨o_4, eo_4, hE⟩ := cl_e hE
  have m1 := moX0_init eo_4
  have m2 := moX11_init_172 hE
  refine x_kVA (o := o_4) hkl (z_runI (As := [.ref r_1, .ref r_2, .ref r_3]) (rest := [.ref t0, .ref t1]) C (ct_X0_init l X F k_t0 k_r_1 k_r_2 k_r_3 eo_4) ci_X11_83 hW hZ rfl hl.1 (Nat.le_of_ble_eq_true rfl) rfl dX11_init_169 ⟨Nat.le_of_ble_eq_true rfl, Nat.le_of_ble_eq_true rfl⟩ (rm_ok hkl m1 m2)) hZ (fun _ _ hW km hZ => ?_)
  replace hkl := hkl.tr km
  replace k_x0 := km.at k_x0 (by decide)
  replace k_t0 := km.at k_t0 (by decide)
  replace k_t1 := km.at k_t1 (by decide)
  exact bX11_init_172 C k_x0 k_t0 k_t1 hkl hW hZ _ (lv_sub hl [0] rfl) hE
set_option maxRecDepth 20000 in
theorem bX11_init_149 {p : Program} {l : Launch} {e : Env} {s : State} {m : MethodId} {args : Array Value} {below : List Frame} {meth : Method} {c : Code} {X : Ec} {h0 : Hp} {o : Hp} {F : Nat} (C : Cx X p s m args meth c RX11 cX11_init 2 none "<init>") {h : Hp} {x0 : Nat} {t0 : Nat} {t1 : Nat} {H : Heap} {locs : List Loc} (k_x0 : hK h x0 = 11) (k_t0 : hK h t0 = 6) (k_t1 : hK h t1 = 11) (hkl : Kl h0 h) (hW : Wx X h H) (hZ : va_S (aA (eB X)) s.heap H locs) (ls : Array Slot) (hl : lv_has ls 2 [(0, .ref x0)]) (hE : sX11_init_149 F h x0 t0 t1 = some o) : W p l e (rmA 9 205 h0 o) s m args below meth c H locs (hS h - hS h0) (hL h - hL h0) (MQ below (QVA X h0 o) args s (hS o - hS h0) (hL o - hL h0) (aA (eB X))) (F0 m 149 ls [.ref t0, .ref t1]) := by
  obtain ⟨h_1, eh_1, hE⟩ := nm_e2 hE
  refine pf_X11_77 C hW hZ rfl k_t1 k_t0 eh_1 dX11_init_149 (fun _ _ hW km hZ => ?_)
  replace hkl := hkl.tr km.l
  refine x_wc km ?_
  replace k_x0 := km.at k_x0 (by decide)
  refine lv_aload_n C.1 C.2.1 dX11_init_152 rfl (lv_at hl 0 rfl) ?_
  obtain ⟨a_2, ea_2, hE⟩ := nm_e2 hE
  obtain ⟨h_3, eh_3, hE⟩ := nm_e2 hE
  refine y_new C hW hZ hkl (moX11_init_156 hE) ⟨rfl, rfl⟩ i_X0 tyX0 tyX0_ok (by decide) rfl rfl dv_X0 m_449 m_450 m_13 eh_3 dX11_init_153 (fun _ hW km k_a_2 hZ => ?_)
  replace hkl := hkl.tr km
  refine x_nmA ea_2 ?_
  rw [← ea_2] at k_a_2
  replace k_x0 := km.at k_x0 (by decide)
  exact bX11_init_156 C k_x0 k_a_2 k_x0 hkl hW hZ _ (lv_sub hl [0] rfl) hE
set_option maxRecDepth 20000 in
theorem bX11_init_133 {p : Program} {l : Launch} {e : Env} {s : State} {m : MethodId} {args : Array Value} {below : List Frame} {meth : Method} {c : Code} {X : Ec} {h0 : Hp} {o : Hp} {F : Nat} (C : Cx X p s m args meth c RX11 cX11_init 2 none "<init>") {h : Hp} {x0 : Nat} {t0 : Nat} {t1 : Nat} {H : Heap} {locs : List Loc} (k_x0 : hK h x0 = 11) (k_t0 : hK h t0 = 6) (k_t1 : hK h t1 = 11) (hkl : Kl h0 h) (hW : Wx X h H) (hZ : va_S (aA (eB X)) s.heap H locs) (ls : Array Slot) (hl : lv_has ls 2 [(0, .ref x0)]) (hE : sX11_init_133 F h x0 t0 t1 = some o) : W p l e (rmA 9 205 h0 o) s m args below meth c H locs (hS h - hS h0) (hL h - hL h0) (MQ below (QVA X h0 o) args s (hS o - hS h0) (hL o - hL h0) (aA (eB X))) (F0 m 133 ls [.ref t0, .ref t1]) := by
  refine lv_dup C.1 C.2.1 dX11_init_133 rfl ?_
  refine lv_aload_n C.1 C.2.1 dX11_init_134 rfl (lv_at hl 0 rfl) ?_
  obtain ⟨r_1, er_1, hE⟩ := cl_e hE
  refine gf_X11_24 C hW k_x0 er_1 dX11_init_135 (fun k_r_1 => ?_)
  refine lv_aload_n C.1 C.2.1 dX11_init_138 rfl (lv_at hl 0 rfl) ?_
  obtain ⟨r_2, er_2, hE⟩ := cl_e hE
  refine gf_X11_41 C hW k_x0 er_2 dX11_init_139 (fun k_r_2 => ?_)
  refine lv_aload_n C.1 C.2.1 dX11_init_142 rfl (lv_at hl 0 rfl) ?_
  obtain ⟨r_3, er_3, hE⟩ := cl_e hE
  refine gf_X11_50 C hW k_x0 er_3 dX11_init_143 (fun k_r_3 => ?_)
  obtain ⟨o_4, eo_4, hE⟩ := cl_e hE
  have m1 := moX6_init eo_4
  have m2 := moX11_init_149 hE
  refine x_kVA (o := o_4) hkl (z_runI (As := [.ref r_1, .ref r_2, .ref r_3]) (rest := [.ref t0, .ref t1]) C (ct_X6_init l X F k_t0 k_r_1 k_r_2 k_r_3 eo_4) ci_X11_74 hW hZ rfl hl.1 (Nat.le_of_ble_eq_true rfl) rfl dX11_init_146 ⟨Nat.le_of_ble_eq_true rfl, Nat.le_of_ble_eq_true rfl⟩ (rm_ok hkl m1 m2)) hZ (fun _ _ hW km hZ => ?_)
  replace hkl := hkl.tr km
  replace k_x0 := km.at k_x0 (by decide)
  replace k_t0 := km.at k_t0 (by decide)
  replace k_t1 := km.at k_t1 (by decide)
  exact bX11_init_149 C k_x0 k_t0 k_t1 hkl hW hZ _ (lv_sub hl [0] rfl) hE
set_option maxRecDepth 20000 in
theorem bX11_init_126 {p : Program} {l : Launch} {e : Env} {s : State} {m : MethodId} {args : Array Value} {below : List Frame} {meth : Method} {c : Code} {X : Ec} {h0 : Hp} {o : Hp} {F : Nat} (C : Cx X p s m args meth c RX11 cX11_init 2 none "<init>") {h : Hp} {x0 : Nat} {t0 : Nat} {t1 : Nat} {H : Heap} {locs : List Loc} (k_x0 : hK h x0 = 11) (k_t0 : hK h t0 = 8) (k_t1 : hK h t1 = 11) (hkl : Kl h0 h) (hW : Wx X h H) (hZ : va_S (aA (eB X)) s.heap H locs) (ls : Array Slot) (hl : lv_has ls 2 [(0, .ref x0)]) (hE : sX11_init_126 F h x0 t0 t1 = some o) : W p l e (rmA 9 205 h0 o) s m args below meth c H locs (hS h - hS h0) (hL h - hL h0) (MQ below (QVA X h0 o) args s (hS o - hS h0) (hL o - hL h0) (aA (eB X))) (F0 m 126 ls [.ref t0, .ref t1]) := by
  obtain ⟨h_1, eh_1, hE⟩ := nm_e2 hE
  refine pf_X11_68 C hW hZ rfl k_t1 k_t0 eh_1 dX11_init_126 (fun _ _ hW km hZ => ?_)
  replace hkl := hkl.tr km.l
  refine x_wc km ?_
  replace k_x0 := km.at k_x0 (by decide)
  refine lv_aload_n C.1 C.2.1 dX11_init_129 rfl (lv_at hl 0 rfl) ?_
  obtain ⟨a_2, ea_2, hE⟩ := nm_e2 hE
  obtain ⟨h_3, eh_3, hE⟩ := nm_e2 hE
  refine y_new C hW hZ hkl (moX11_init_133 hE) ⟨rfl, rfl⟩ i_X6 tyX6 tyX6_ok (by decide) rfl rfl dv_X6 m_415 m_416 m_12 eh_3 dX11_init_130 (fun _ hW km k_a_2 hZ => ?_)
  replace hkl := hkl.tr km
  refine x_nmA ea_2 ?_
  rw [← ea_2] at k_a_2
  replace k_x0 := km.at k_x0 (by decide)
  exact bX11_init_133 C k_x0 k_a_2 k_x0 hkl hW hZ _ (lv_sub hl [0] rfl) hE
set_option maxRecDepth 20000 in
theorem bX11_init_114 {p : Program} {l : Launch} {e : Env} {s : State} {m : MethodId} {args : Array Value} {below : List Frame} {meth : Method} {c : Code} {X : Ec} {h0 : Hp} {o : Hp} {F : Nat} (C : Cx X p s m args meth c RX11 cX11_init 2 none "<init>") {h : Hp} {x0 : Nat} {t0 : Nat} {t1 : Nat} {H : Heap} {locs : List Loc} (k_x0 : hK h x0 = 11) (k_t0 : hK h t0 = 8) (k_t1 : hK h t1 = 11) (hkl : Kl h0 h) (hW : Wx X h H) (hZ : va_S (aA (eB X)) s.heap H locs) (ls : Array Slot) (hl : lv_has ls 2 [(0, .ref x0)]) (hE : sX11_init_114 F h x0 t0 t1 = some o) : W p l e (rmA 9 205 h0 o) s m args below meth c H locs (hS h - hS h0) (hL h - hL h0) (MQ below (QVA X h0 o) args s (hS o - hS h0) (hL o - hL h0) (aA (eB X))) (F0 m 114 ls [.ref t0, .ref t1]) := by
  refine lv_dup C.1 C.2.1 dX11_init_114 rfl ?_
  refine lv_aload_n C.1 C.2.1 dX11_init_115 rfl (lv_at hl 0 rfl) ?_
  obtain ⟨r_1, er_1, hE⟩ := cl_e hE
  refine gf_X11_24 C hW k_x0 er_1 dX11_init_116 (fun k_r_1 => ?_)
  refine lv_aload_n C.1 C.2.1 dX11_init_119 rfl (lv_at hl 0 rfl) ?_
  obtain ⟨r_2, er_2, hE⟩ := cl_e hE
  refine gf_X11_50 C hW k_x0 er_2 dX11_init_120 (fun k_r_2 => ?_)
  obtain ⟨o_3, eo_3, hE⟩ := cl_e hE
  have m1 := moX8_init eo_3
  have m2 := moX11_init_126 hE
  refine x_kVA (o := o_3) hkl (z_runI (As := [.ref r_1, .ref r_2]) (rest := [.ref t0, .ref t1]) C (ct_X8_init l X F k_t0 k_r_1 k_r_2 eo_3) ci_X11_65 hW hZ rfl hl.1 (Nat.le_of_ble_eq_true rfl) rfl dX11_init_123 ⟨Nat.le_of_ble_eq_true rfl, Nat.le_of_ble_eq_true rfl⟩ (rm_ok hkl m1 m2)) hZ (fun _ _ hW km hZ => ?_)
  replace hkl := hkl.tr km
  replace k_x0 := km.at k_x0 (by decide)
  replace k_t0 := km.at k_t0 (by decide)
  replace k_t1 := km.at k_t1 (by decide)
  exact bX11_init_126 C k_x0 k_t0 k_t1 hkl hW hZ _ (lv_sub hl [0] rfl) hE
set_option maxRecDepth 20000 in
theorem bX11_init_107 {p : Program} {l : Launch} {e : Env} {s : State} {m : MethodId} {args : Array Value} {below : List Frame} {meth : Method} {c : Code} {X : Ec} {h0 : Hp} {o : Hp} {F : Nat} (C : Cx X p s m args meth c RX11 cX11_init 2 none "<init>") {h : Hp} {x0 : Nat} {t0 : Nat} {t1 : Nat} {H : Heap} {locs : List Loc} (k_x0 : hK h x0 = 11) (k_t0 : hK h t0 = 7) (k_t1 : hK h t1 = 11) (hkl : Kl h0 h) (hW : Wx X h H) (hZ : va_S (aA (eB X)) s.heap H locs) (ls : Array Slot) (hl : lv_has ls 2 [(0, .ref x0)]) (hE : sX11_init_107 F h x0 t0 t1 = some o) : W p l e (rmA 9 205 h0 o) s m args below meth c H locs (hS h - hS h0) (hL h - hL h0) (MQ below (QVA X h0 o) args s (hS o - hS h0) (hL o - hL h0) (aA (eB X))) (F0 m 107 ls [.ref t0, .ref t1]) := by
  obtain ⟨h_1, eh_1, hE⟩ := nm_e2 hE
  refine pf_X11_59 C hW hZ rfl k_t1 k_t0 eh_1 dX11_init_107 (fun _ _ hW km hZ => ?_)
  replace hkl := hkl.tr km.l
  refine x_wc km ?_
  replace k_x0 := km.at k_x0 (by decide)
  refine lv_aload_n C.1 C.2.1 dX11_init_110 rfl (lv_at hl 0 rfl) ?_
  obtain ⟨a_2, ea_2, hE⟩ := nm_e2 hE
  obtain ⟨h_3, eh_3, hE⟩ := nm_e2 hE
  refine y_new C hW hZ hkl (moX11_init_114 hE) ⟨rfl, rfl⟩ i_X8 tyX8 tyX8_ok (by decide) rfl rfl dv_X8 m_392 m_393 m_11 eh_3 dX11_init_111 (fun _ hW km k_a_2 hZ => ?_)
  replace hkl := hkl.tr km
  refine x_nmA ea_2 ?_
  rw [← ea_2] at k_a_2
  replace k_x0 := km.at k_x0 (by decide)
  exact bX11_init_114 C k_x0 k_a_2 k_x0 hkl hW hZ _ (lv_sub hl [0] rfl) hE
set_option maxRecDepth 20000 in
theorem bX11_init_99 {p : Program} {l : Launch} {e : Env} {s : State} {m : MethodId} {args : Array Value} {below : List Frame} {meth : Method} {c : Code} {X : Ec} {h0 : Hp} {o : Hp} {F : Nat} (C : Cx X p s m args meth c RX11 cX11_init 2 none "<init>") {h : Hp} {x0 : Nat} {t0 : Nat} {t1 : Nat} {H : Heap} {locs : List Loc} (k_x0 : hK h x0 = 11) (k_t0 : hK h t0 = 7) (k_t1 : hK h t1 = 11) (hkl : Kl h0 h) (hW : Wx X h H) (hZ : va_S (aA (eB X)) s.heap H locs) (ls : Array Slot) (hl : lv_has ls 2 [(0, .ref x0)]) (hE : sX11_init_99 F h x0 t0 t1 = some o) : W p l e (rmA 9 205 h0 o) s m args below meth c H locs (hS h - hS h0) (hL h - hL h0) (MQ below (QVA X h0 o) args s (hS o - hS h0) (hL o - hL h0) (aA (eB X))) (F0 m 99 ls [.ref t0, .ref t1]) := by
  refine lv_dup C.1 C.2.1 dX11_init_99 rfl ?_
  refine lv_aload_n C.1 C.2.1 dX11_init_100 rfl (lv_at hl 0 rfl) ?_
  obtain ⟨r_1, er_1, hE⟩ := cl_e hE
  refine gf_X11_24 C hW k_x0 er_1 dX11_init_101 (fun k_r_1 => ?_)
  obtain ⟨o_2, eo_2, hE⟩ := cl_e hE
  have m1 := moX7_init eo_2
  have m2 := moX11_init_107 hE
  refine x_kV (o := o_2) (z_runI (As := [.ref r_1]) (rest := [.ref t0, .ref t1]) C (ct_X7_init l X k_t0 k_r_1 eo_2) ci_X11_56 hW hZ rfl hl.1 (Nat.le_of_ble_eq_true rfl) rfl dX11_init_104 ⟨Nat.le_of_ble_eq_true rfl, Nat.le_of_ble_eq_true rfl⟩ (rm_ok0 hkl m1 m2)) hZ (fun _ _ hW km hZ => ?_)
  replace hkl := hkl.tr km.l
  refine x_wc km ?_
  replace k_x0 := km.at k_x0 (by decide)
  replace k_t0 := km.at k_t0 (by decide)
  replace k_t1 := km.at k_t1 (by decide)
  exact bX11_init_107 C k_x0 k_t0 k_t1 hkl hW hZ _ (lv_sub hl [0] rfl) hE
set_option maxRecDepth 20000 in
theorem bX11_init_92 {p : Program} {l : Launch} {e : Env} {s : State} {m : MethodId} {args : Array Value} {below : List Frame} {meth : Method} {c : Code} {X : Ec} {h0 : Hp} {o : Hp} {F : Nat} (C : Cx X p s m args meth c RX11 cX11_init 2 none "<init>") {h : Hp} {x0 : Nat} {t0 : Nat} {t1 : Nat} {H : Heap} {locs : List Loc} (k_x0 : hK h x0 = 11) (k_t0 : hK h t0 = 5) (k_t1 : hK h t1 = 11) (hkl : Kl h0 h) (hW : Wx X h H) (hZ : va_S (aA (eB X)) s.heap H locs) (ls : Array Slot) (hl : lv_has ls 2 [(0, .ref x0)]) (hE : sX11_init_92 F h x0 t0 t1 = some o) : W p l e (rmA 9 205 h0 o) s m args below meth c H locs (hS h - hS h0) (hL h - hL h0) (MQ below (QVA X h0 o) args s (hS o - hS h0) (hL o - hL h0) (aA (eB X))) (F0 m 92 ls [.ref t0, .ref t1]) := by
  obtain ⟨h_1, eh_1, hE⟩ := nm_e2 hE
  refine pf_X11_50 C hW hZ rfl k_t1 k_t0 eh_1 dX11_init_92 (fun _ _ hW km hZ => ?_)
  replace hkl := hkl.tr km.l
  refine x_wc km ?_
  replace k_x0 := km.at k_x0 (by decide)
  refine lv_aload_n C.1 C.2.1 dX11_init_95 rfl (lv_at hl 0 rfl) ?_
  obtain ⟨a_2, ea_2, hE⟩ := nm_e2 hE
  obtain ⟨h_3, eh_3, hE⟩ := nm_e2 hE
  refine y_new C hW hZ hkl (moX11_init_99 hE) ⟨rfl, rfl⟩ i_X7 tyX7 tyX7_ok (by decide) rfl rfl dv_X7 m_376 m_377 m_10 eh_3 dX11_init_96 (fun _ hW km k_a_2 hZ => ?_)
  replace hkl := hkl.tr km
  refine x_nmA ea_2 ?_
  rw [← ea_2] at k_a_2
  replace k_x0 := km.at k_x0 (by decide)
  exact bX11_init_99 C k_x0 k_a_2 k_x0 hkl hW hZ _ (lv_sub hl [0] rfl) hE
set_option maxRecDepth 20000 in
theorem bX11_init_80 {p : Program} {l : Launch} {e : Env} {s : State} {m : MethodId} {args : Array Value} {below : List Frame} {meth : Method} {c : Code} {X : Ec} {h0 : Hp} {o : Hp} {F : Nat} (C : Cx X p s m args meth c RX11 cX11_init 2 none "<init>") {h : Hp} {x0 : Nat} {t0 : Nat} {t1 : Nat} {H : Heap} {locs : List Loc} (k_x0 : hK h x0 = 11) (k_t0 : hK h t0 = 5) (k_t1 : hK h t1 = 11) (hkl : Kl h0 h) (hW : Wx X h H) (hZ : va_S (aA (eB X)) s.heap H locs) (ls : Array Slot) (hl : lv_has ls 2 [(0, .ref x0)]) (hE : sX11_init_80 F h x0 t0 t1 = some o) : W p l e (rmA 9 205 h0 o) s m args below meth c H locs (hS h - hS h0) (hL h - hL h0) (MQ below (QVA X h0 o) args s (hS o - hS h0) (hL o - hL h0) (aA (eB X))) (F0 m 80 ls [.ref t0, .ref t1]) := by
  refine lv_dup C.1 C.2.1 dX11_init_80 rfl ?_
  refine lv_aload_n C.1 C.2.1 dX11_init_81 rfl (lv_at hl 0 rfl) ?_
  obtain ⟨r_1, er_1, hE⟩ := cl_e hE
  refine gf_X11_24 C hW k_x0 er_1 dX11_init_82 (fun k_r_1 => ?_)
  refine lv_aload_n C.1 C.2.1 dX11_init_85 rfl (lv_at hl 0 rfl) ?_
  obtain ⟨r_2, er_2, hE⟩ := cl_e hE
  refine gf_X11_41 C hW k_x0 er_2 dX11_init_86 (fun k_r_2 => ?_)
  obtain ⟨o_3, eo_3, hE⟩ := cl_e hE
  have m1 := moX5_init eo_3
  have m2 := moX11_init_92 hE
  refine x_kVA (o := o_3) hkl (z_runI (As := [.ref r_1, .ref r_2]) (rest := [.ref t0, .ref t1]) C (ct_X5_init l X F k_t0 k_r_1 k_r_2 eo_3) ci_X11_47 hW hZ rfl hl.1 (Nat.le_of_ble_eq_true rfl) rfl dX11_init_89 ⟨Nat.le_of_ble_eq_true rfl, Nat.le_of_ble_eq_true rfl⟩ (rm_ok hkl m1 m2)) hZ (fun _ _ hW km hZ => ?_)
  replace hkl := hkl.tr km
  replace k_x0 := km.at k_x0 (by decide)
  replace k_t0 := km.at k_t0 (by decide)
  replace k_t1 := km.at k_t1 (by decide)
  exact bX11_init_92 C k_x0 k_t0 k_t1 hkl hW hZ _ (lv_sub hl [0] rfl) hE
set_option maxRecDepth 20000 in
theorem bX11_init_73 {p : Program} {l : Launch} {e : Env} {s : State} {m : MethodId} {args : Array Value} {below : List Frame} {meth : Method} {c : Code} {X : Ec} {h0 : Hp} {o : Hp} {F : Nat} (C : Cx X p s m args meth c RX11 cX11_init 2 none "<init>") {h : Hp} {x0 : Nat} {t0 : Nat} {t1 : Nat} {H : Heap} {locs : List Loc} (k_x0 : hK h x0 = 11) (k_t0 : hK h t0 = 10) (k_t1 : hK h t1 = 11) (hkl : Kl h0 h) (hW : Wx X h H) (hZ : va_S (aA (eB X)) s.heap H locs) (ls : Array Slot) (hl : lv_has ls 2 [(0, .ref x0)]) (hE : sX11_init_73 F h x0 t0 t1 = some o) : W p l e (rmA 9 205 h0 o) s m args below meth c H locs (hS h - hS h0) (hL h - hL h0) (MQ below (QVA X h0 o) args s (hS o - hS h0) (hL o - hL h0) (aA (eB X))) (F0 m 73 ls [.ref t0, .ref t1]) := by
  obtain ⟨h_1, eh_1, hE⟩ := nm_e2 hE
  refine pf_X11_41 C hW hZ rfl k_t1 k_t0 eh_1 dX11_init_73 (fun _ _ hW km hZ => ?_)
  replace hkl := hkl.tr km.l
  refine x_wc km ?_
  replace k_x0 := km.at k_x0 (by decide)
  refine lv_aload_n C.1 C.2.1 dX11_init_76 rfl (lv_at hl 0 rfl) ?_
  obtain ⟨a_2, ea_2, hE⟩ := nm_e2 hE
  obtain ⟨h_3, eh_3, hE⟩ := nm_e2 hE
  refine y_new C hW hZ hkl (moX11_init_80 hE) ⟨rfl, rfl⟩ i_X5 tyX5 tyX5_ok (by decide) rfl rfl dv_X5 m_259 m_260 m_7 eh_3 dX11_init_77 (fun _ hW km k_a_2 hZ => ?_)
  replace hkl := hkl.tr km
  refine x_nmA ea_2 ?_
  rw [← ea_2] at k_a_2
  replace k_x0 := km.at k_x0 (by decide)
  exact bX11_init_80 C k_x0 k_a_2 k_x0 hkl hW hZ _ (lv_sub hl [0] rfl) hE
set_option maxRecDepth 20000 in
theorem bX11_init_69 {p : Program} {l : Launch} {e : Env} {s : State} {m : MethodId} {args : Array Value} {below : List Frame} {meth : Method} {c : Code} {X : Ec} {h0 : Hp} {o : Hp} {F : Nat} (C : Cx X p s m args meth c RX11 cX11_init 2 none "<init>") {h : Hp} {x0 : Nat} {t0 : Nat} {t1 : Nat} {H : Heap} {locs : List Loc} (k_x0 : hK h x0 = 11) (k_t0 : hK h t0 = 10) (k_t1 : hK h t1 = 11) (hkl : Kl h0 h) (hW : Wx X h H) (hZ : va_S (aA (eB X)) s.heap H locs) (ls : Array Slot) (hl : lv_has ls 2 [(0, .ref x0)]) (hE : sX11_init_69 F h x0 t0 t1 = some o) : W p l e (rmA 9 205 h0 o) s m args below meth c H locs (hS h - hS h0) (hL h - hL h0) (MQ below (QVA X h0 o) args s (hS o - hS h0) (hL o - hL h0) (aA (eB X))) (F0 m 69 ls [.ref t0, .ref t1]) := by
  refine lv_dup C.1 C.2.1 dX11_init_69 rfl ?_
  obtain ⟨o_1, eo_1, hE⟩ := cl_e hE
  have m1 := moX10_init eo_1
  have m2 := moX11_init_73 hE
  refine x_kVA (o := o_1) hkl (z_runIN (As := []) (rest := [.ref t0, .ref t1]) C (ct_X10_init l X k_t0 eo_1) cj_X11_40 hW hZ rfl hl.1 (Nat.le_of_ble_eq_true rfl) rfl dX11_init_70 ⟨Nat.le_of_ble_eq_true rfl, Nat.le_of_ble_eq_true rfl⟩ (rm_ok hkl m1 m2)) hZ (fun _ _ hW km hZ => ?_)
  replace hkl := hkl.tr km
  replace k_x0 := km.at k_x0 (by decide)
  replace k_t0 := km.at k_t0 (by decide)
  replace k_t1 := km.at k_t1 (by decide)
  exact bX11_init_73 C k_x0 k_t0 k_t1 hkl hW hZ _ (lv_sub hl [0] rfl) hE
set_option maxRecDepth 20000 in
theorem bX11_init_62 {p : Program} {l : Launch} {e : Env} {s : State} {m : MethodId} {args : Array Value} {below : List Frame} {meth : Method} {c : Code} {X : Ec} {h0 : Hp} {o : Hp} {F : Nat} (C : Cx X p s m args meth c RX11 cX11_init 2 none "<init>") {h : Hp} {x0 : Nat} {t0 : Nat} {t1 : Nat} {H : Heap} {locs : List Loc} (k_x0 : hK h x0 = 11) (k_t0 : hK h t0 = 2) (k_t1 : hK h t1 = 11) (hkl : Kl h0 h) (hW : Wx X h H) (hZ : va_S (aA (eB X)) s.heap H locs) (ls : Array Slot) (hl : lv_has ls 2 [(0, .ref x0)]) (hE : sX11_init_62 F h x0 t0 t1 = some o) : W p l e (rmA 9 205 h0 o) s m args below meth c H locs (hS h - hS h0) (hL h - hL h0) (MQ below (QVA X h0 o) args s (hS o - hS h0) (hL o - hL h0) (aA (eB X))) (F0 m 62 ls [.ref t0, .ref t1]) := by
  obtain ⟨h_1, eh_1, hE⟩ := nm_e2 hE
  refine pf_X11_34 C hW hZ rfl k_t1 k_t0 eh_1 dX11_init_62 (fun _ _ hW km hZ => ?_)
  replace hkl := hkl.tr km.l
  refine x_wc km ?_
  replace k_x0 := km.at k_x0 (by decide)
  refine lv_aload_n C.1 C.2.1 dX11_init_65 rfl (lv_at hl 0 rfl) ?_
  obtain ⟨a_2, ea_2, hE⟩ := nm_e2 hE
  obtain ⟨h_3, eh_3, hE⟩ := nm_e2 hE
  refine y_new C hW hZ hkl (moX11_init_69 hE) ⟨rfl, rfl⟩ i_X10 tyX10 tyX10_ok (by decide) rfl rfl dv_X10 m_217 m_218 m_6 eh_3 dX11_init_66 (fun _ hW km k_a_2 hZ => ?_)
  replace hkl := hkl.tr km
  refine x_nmA ea_2 ?_
  rw [← ea_2] at k_a_2
  replace k_x0 := km.at k_x0 (by decide)
  exact bX11_init_69 C k_x0 k_a_2 k_x0 hkl hW hZ _ (lv_sub hl [0] rfl) hE
set_option maxRecDepth 20000 in
theorem bX11_init_58 {p : Program} {l : Launch} {e : Env} {s : State} {m : MethodId} {args : Array Value} {below : List Frame} {meth : Method} {c : Code} {X : Ec} {h0 : Hp} {o : Hp} {F : Nat} (C : Cx X p s m args meth c RX11 cX11_init 2 none "<init>") {h : Hp} {x0 : Nat} {t0 : Nat} {t1 : Nat} {H : Heap} {locs : List Loc} (k_x0 : hK h x0 = 11) (k_t0 : hK h t0 = 2) (k_t1 : hK h t1 = 11) (hkl : Kl h0 h) (hW : Wx X h H) (hZ : va_S (aA (eB X)) s.heap H locs) (ls : Array Slot) (hl : lv_has ls 2 [(0, .ref x0)]) (hE : sX11_init_58 F h x0 t0 t1 = some o) : W p l e (rmA 9 205 h0 o) s m args below meth c H locs (hS h - hS h0) (hL h - hL h0) (MQ below (QVA X h0 o) args s (hS o - hS h0) (hL o - hL h0) (aA (eB X))) (F0 m 58 ls [.ref t0, .ref t1]) := by
  refine lv_dup C.1 C.2.1 dX11_init_58 rfl ?_
  obtain ⟨o_1, eo_1, hE⟩ := cl_e hE
  have m1 := moX2_init eo_1
  have m2 := moX11_init_62 hE
  refine x_kV (o := o_1) (z_runIN (As := []) (rest := [.ref t0, .ref t1]) C (ct_X2_init l X k_t0 eo_1) cj_X11_33 hW hZ rfl hl.1 (Nat.le_of_ble_eq_true rfl) rfl dX11_init_59 ⟨Nat.le_of_ble_eq_true rfl, Nat.le_of_ble_eq_true rfl⟩ (rm_ok0 hkl m1 m2)) hZ (fun _ _ hW km hZ => ?_)
  replace hkl := hkl.tr km.l
  refine x_wc km ?_
  replace k_x0 := km.at k_x0 (by decide)
  replace k_t0 := km.at k_t0 (by decide)
  replace k_t1 := km.at k_t1 (by decide)
  exact bX11_init_62 C k_x0 k_t0 k_t1 hkl hW hZ _ (lv_sub hl [0] rfl) hE
set_option maxRecDepth 20000 in
theorem bX11_init_51 {p : Program} {l : Launch} {e : Env} {s : State} {m : MethodId} {args : Array Value} {below : List Frame} {meth : Method} {c : Code} {X : Ec} {h0 : Hp} {o : Hp} {F : Nat} (C : Cx X p s m args meth c RX11 cX11_init 2 none "<init>") {h : Hp} {x0 : Nat} {t0 : Nat} {t1 : Nat} {H : Heap} {locs : List Loc} (k_x0 : hK h x0 = 11) (k_t0 : hK h t0 = 1) (k_t1 : hK h t1 = 11) (hkl : Kl h0 h) (hW : Wx X h H) (hZ : va_S (aA (eB X)) s.heap H locs) (ls : Array Slot) (hl : lv_has ls 2 [(0, .ref x0)]) (hE : sX11_init_51 F h x0 t0 t1 = some o) : W p l e (rmA 9 205 h0 o) s m args below meth c H locs (hS h - hS h0) (hL h - hL h0) (MQ below (QVA X h0 o) args s (hS o - hS h0) (hL o - hL h0) (aA (eB X))) (F0 m 51 ls [.ref t0, .ref t1]) := by
  obtain ⟨h_1, eh_1, hE⟩ := nm_e2 hE
  refine pf_X11_28 C hW hZ rfl k_t1 k_t0 eh_1 dX11_init_51 (fun _ _ hW km hZ => ?_)
  replace hkl := hkl.tr km.l
  refine x_wc km ?_
  replace k_x0 := km.at k_x0 (by decide)
  refine lv_aload_n C.1 C.2.1 dX11_init_54 rfl (lv_at hl 0 rfl) ?_
  obtain ⟨a_2, ea_2, hE⟩ := nm_e2 hE
  obtain ⟨h_3, eh_3, hE⟩ := nm_e2 hE
  refine y_new C hW hZ hkl (moX11_init_58 hE) ⟨rfl, rfl⟩ i_X2 tyX2 tyX2_ok (by decide) rfl rfl dv_X2 m_189 m_190 m_5 eh_3 dX11_init_55 (fun _ hW km k_a_2 hZ => ?_)
  replace hkl := hkl.tr km
  refine x_nmA ea_2 ?_
  rw [← ea_2] at k_a_2
  replace k_x0 := km.at k_x0 (by decide)
  exact bX11_init_58 C k_x0 k_a_2 k_x0 hkl hW hZ _ (lv_sub hl [0] rfl) hE
set_option maxRecDepth 20000 in
theorem bX11_init_47 {p : Program} {l : Launch} {e : Env} {s : State} {m : MethodId} {args : Array Value} {below : List Frame} {meth : Method} {c : Code} {X : Ec} {h0 : Hp} {o : Hp} {F : Nat} (C : Cx X p s m args meth c RX11 cX11_init 2 none "<init>") {h : Hp} {x0 : Nat} {t0 : Nat} {t1 : Nat} {H : Heap} {locs : List Loc} (k_x0 : hK h x0 = 11) (k_t0 : hK h t0 = 1) (k_t1 : hK h t1 = 11) (hkl : Kl h0 h) (hW : Wx X h H) (hZ : va_S (aA (eB X)) s.heap H locs) (ls : Array Slot) (hl : lv_has ls 2 [(0, .ref x0)]) (hE : sX11_init_47 F h x0 t0 t1 = some o) : W p l e (rmA 9 205 h0 o) s m args below meth c H locs (hS h - hS h0) (hL h - hL h0) (MQ below (QVA X h0 o) args s (hS o - hS h0) (hL o - hL h0) (aA (eB X))) (F0 m 47 ls [.ref t0, .ref t1]) := by
  refine lv_dup C.1 C.2.1 dX11_init_47 rfl ?_
  obtain ⟨o_1, eo_1, hE⟩ := cl_e hE
  have m1 := moX1_init eo_1
  have m2 := moX11_init_51 hE
  refine x_kVA (o := o_1) hkl (z_runIN (As := []) (rest := [.ref t0, .ref t1]) C (ct_X1_init l X k_t0 eo_1) cj_X11_23 hW hZ rfl hl.1 (Nat.le_of_ble_eq_true rfl) rfl dX11_init_48 ⟨Nat.le_of_ble_eq_true rfl, Nat.le_of_ble_eq_true rfl⟩ (rm_ok hkl m1 m2)) hZ (fun _ _ hW km hZ => ?_)
  replace hkl := hkl.tr km
  replace k_x0 := km.at k_x0 (by decide)
  replace k_t0 := km.at k_t0 (by decide)
  replace k_t1 := km.at k_t1 (by decide)
  exact bX11_init_51 C k_x0 k_t0 k_t1 hkl hW hZ _ (lv_sub hl [0] rfl) hE
set_option maxRecDepth 20000 in
theorem bX11_init_40 {p : Program} {l : Launch} {e : Env} {s : State} {m : MethodId} {args : Array Value} {below : List Frame} {meth : Method} {c : Code} {X : Ec} {h0 : Hp} {o : Hp} {F : Nat} (C : Cx X p s m args meth c RX11 cX11_init 2 none "<init>") {h : Hp} {x0 : Nat} {t0 : Nat} {t1 : Nat} {H : Heap} {locs : List Loc} (k_x0 : hK h x0 = 11) (k_t0 : hK h t0 = 1) (k_t1 : hK h t1 = 11) (hkl : Kl h0 h) (hW : Wx X h H) (hZ : va_S (aA (eB X)) s.heap H locs) (ls : Array Slot) (hl : lv_has ls 2 [(0, .ref x0)]) (hE : sX11_init_40 F h x0 t0 t1 = some o) : W p l e (rmA 9 205 h0 o) s m args below meth c H locs (hS h - hS h0) (hL h - hL h0) (MQ below (QVA X h0 o) args s (hS o - hS h0) (hL o - hL h0) (aA (eB X))) (F0 m 40 ls [.ref t0, .ref t1]) := by
  obtain ⟨h_1, eh_1, hE⟩ := nm_e2 hE
  refine pf_X11_24 C hW hZ rfl k_t1 k_t0 eh_1 dX11_init_40 (fun _ _ hW km hZ => ?_)
  replace hkl := hkl.tr km.l
  refine x_wc km ?_
  replace k_x0 := km.at k_x0 (by decide)
  refine lv_aload_n C.1 C.2.1 dX11_init_43 rfl (lv_at hl 0 rfl) ?_
  obtain ⟨a_2, ea_2, hE⟩ := nm_e2 hE
  obtain ⟨h_3, eh_3, hE⟩ := nm_e2 hE
  refine y_new C hW hZ hkl (moX11_init_47 hE) ⟨rfl, rfl⟩ i_X1 tyX1 tyX1_ok (by decide) rfl rfl dv_X1 m_55 m_56 m_4 eh_3 dX11_init_44 (fun _ hW km k_a_2 hZ => ?_)
  replace hkl := hkl.tr km
  refine x_nmA ea_2 ?_
  rw [← ea_2] at k_a_2
  replace k_x0 := km.at k_x0 (by decide)
  exact bX11_init_47 C k_x0 k_a_2 k_x0 hkl hW hZ _ (lv_sub hl [0] rfl) hE
set_option maxRecDepth 20000 in
theorem bX11_init_36 {p : Program} {l : Launch} {e : Env} {s : State} {m : MethodId} {args : Array Value} {below : List Frame} {meth : Method} {c : Code} {X : Ec} {h0 : Hp} {o : Hp} {F : Nat} (C : Cx X p s m args meth c RX11 cX11_init 2 none "<init>") {h : Hp} {x0 : Nat} {t0 : Nat} {t1 : Nat} {H : Heap} {locs : List Loc} (k_x0 : hK h x0 = 11) (k_t0 : hK h t0 = 1) (k_t1 : hK h t1 = 11) (hkl : Kl h0 h) (hW : Wx X h H) (hZ : va_S (aA (eB X)) s.heap H locs) (ls : Array Slot) (hl : lv_has ls 2 [(0, .ref x0)]) (hE : sX11_init_36 F h x0 t0 t1 = some o) : W p l e (rmA 9 205 h0 o) s m args below meth c H locs (hS h - hS h0) (hL h - hL h0) (MQ below (QVA X h0 o) args s (hS o - hS h0) (hL o - hL h0) (aA (eB X))) (F0 m 36 ls [.ref t0, .ref t1]) := by
  refine lv_dup C.1 C.2.1 dX11_init_36 rfl ?_
  obtain ⟨o_1, eo_1, hE⟩ := cl_e hE
  have m1 := moX1_init eo_1
  have m2 := moX11_init_40 hE
  refine x_kVA (o := o_1) hkl (z_runIN (As := []) (rest := [.ref t0, .ref t1]) C (ct_X1_init l X k_t0 eo_1) cj_X11_23 hW hZ rfl hl.1 (Nat.le_of_ble_eq_true rfl) rfl dX11_init_37 ⟨Nat.le_of_ble_eq_true rfl, Nat.le_of_ble_eq_true rfl⟩ (rm_ok hkl m1 m2)) hZ (fun _ _ hW km hZ => ?_)
  replace hkl := hkl.tr km
  replace k_x0 := km.at k_x0 (by decide)
  replace k_t0 := km.at k_t0 (by decide)
  replace k_t1 := km.at k_t1 (by decide)
  exact bX11_init_40 C k_x0 k_t0 k_t1 hkl hW hZ _ (lv_sub hl [0] rfl) hE
set_option maxRecDepth 20000 in
theorem bX11_init_29 {p : Program} {l : Launch} {e : Env} {s : State} {m : MethodId} {args : Array Value} {below : List Frame} {meth : Method} {c : Code} {X : Ec} {h0 : Hp} {o : Hp} {F : Nat} (C : Cx X p s m args meth c RX11 cX11_init 2 none "<init>") {h : Hp} {x0 : Nat} {t0 : Nat} {t1 : Nat} {H : Heap} {locs : List Loc} (k_x0 : hK h x0 = 11) (k_t0 : hK h t0 = 9) (k_t1 : hK h t1 = 11) (hkl : Kl h0 h) (hW : Wx X h H) (hZ : va_S (aA (eB X)) s.heap H locs) (ls : Array Slot) (hl : lv_has ls 2 [(0, .ref x0)]) (hE : sX11_init_29 F h x0 t0 t1 = some o) : W p l e (rmA 9 205 h0 o) s m args below meth c H locs (hS h - hS h0) (hL h - hL h0) (MQ below (QVA X h0 o) args s (hS o - hS h0) (hL o - hL h0) (aA (eB X))) (F0 m 29 ls [.ref t0, .ref t1]) := by
  obtain ⟨h_1, eh_1, hE⟩ := nm_e2 hE
  refine pf_X11_18 C hW hZ rfl k_t1 k_t0 eh_1 dX11_init_29 (fun _ _ hW km hZ => ?_)
  replace hkl := hkl.tr km.l
  refine x_wc km ?_
  replace k_x0 := km.at k_x0 (by decide)
  refine lv_aload_n C.1 C.2.1 dX11_init_32 rfl (lv_at hl 0 rfl) ?_
  obtain ⟨a_2, ea_2, hE⟩ := nm_e2 hE
  obtain ⟨h_3, eh_3, hE⟩ := nm_e2 hE
  refine y_new C hW hZ hkl (moX11_init_36 hE) ⟨rfl, rfl⟩ i_X1 tyX1 tyX1_ok (by decide) rfl rfl dv_X1 m_55 m_56 m_4 eh_3 dX11_init_33 (fun _ hW km k_a_2 hZ => ?_)
  replace hkl := hkl.tr km
  refine x_nmA ea_2 ?_
  rw [← ea_2] at k_a_2
  replace k_x0 := km.at k_x0 (by decide)
  exact bX11_init_36 C k_x0 k_a_2 k_x0 hkl hW hZ _ (lv_sub hl [0] rfl) hE
set_option maxRecDepth 20000 in
theorem bX11_init_22 {p : Program} {l : Launch} {e : Env} {s : State} {m : MethodId} {args : Array Value} {below : List Frame} {meth : Method} {c : Code} {X : Ec} {h0 : Hp} {o : Hp} {F : Nat} (C : Cx X p s m args meth c RX11 cX11_init 2 none "<init>") {h : Hp} {x0 : Nat} {t0 : Nat} {t1 : Nat} {H : Heap} {locs : List Loc} (k_x0 : hK h x0 = 11) (k_t0 : hK h t0 = 9) (k_t1 : hK h t1 = 11) (hkl : Kl h0 h) (hW : Wx X h H) (hZ : va_S (aA (eB X)) s.heap H locs) (ls : Array Slot) (hl : lv_has ls 2 [(0, .ref x0)]) (hE : sX11_init_22 F h x0 t0 t1 = some o) : W p l e (rmA 9 205 h0 o) s m args below meth c H locs (hS h - hS h0) (hL h - hL h0) (MQ below (QVA X h0 o) args s (hS o - hS h0) (hL o - hL h0) (aA (eB X))) (F0 m 22 ls [.ref t0, .ref t1]) := by
  refine lv_dup C.1 C.2.1 dX11_init_22 rfl ?_
  refine lv_sipush (v := (512 : Int32)) C.1 C.2.1 dX11_init_23 (by decide) ?_
  obtain ⟨o_1, eo_1, hE⟩ := cl_e hE
  have m1 := moX9_init eo_1
  have m2 := moX11_init_29 hE
  refine x_kVA (o := o_1) hkl (z_runI (As := [.int (512 : Int32)]) (rest := [.ref t0, .ref t1]) C (ct_X9_init l X k_t0 eo_1) ci_X11_11 hW hZ rfl hl.1 (Nat.le_of_ble_eq_true rfl) rfl dX11_init_26 ⟨Nat.le_of_ble_eq_true rfl, Nat.le_of_ble_eq_true rfl⟩ (rm_ok hkl m1 m2)) hZ (fun _ _ hW km hZ => ?_)
  replace hkl := hkl.tr km
  replace k_x0 := km.at k_x0 (by decide)
  replace k_t0 := km.at k_t0 (by decide)
  replace k_t1 := km.at k_t1 (by decide)
  exact bX11_init_29 C k_x0 k_t0 k_t1 hkl hW hZ _ (lv_sub hl [0] rfl) hE
set_option maxRecDepth 20000 in
theorem bX11_init_15 {p : Program} {l : Launch} {e : Env} {s : State} {m : MethodId} {args : Array Value} {below : List Frame} {meth : Method} {c : Code} {X : Ec} {h0 : Hp} {o : Hp} {F : Nat} (C : Cx X p s m args meth c RX11 cX11_init 2 none "<init>") {h : Hp} {x0 : Nat} {t0 : Nat} {t1 : Nat} {H : Heap} {locs : List Loc} (k_x0 : hK h x0 = 11) (k_t0 : hK h t0 = 9) (k_t1 : hK h t1 = 11) (hkl : Kl h0 h) (hW : Wx X h H) (hZ : va_S (aA (eB X)) s.heap H locs) (ls : Array Slot) (hl : lv_has ls 2 [(0, .ref x0)]) (hE : sX11_init_15 F h x0 t0 t1 = some o) : W p l e (rmA 9 205 h0 o) s m args below meth c H locs (hS h - hS h0) (hL h - hL h0) (MQ below (QVA X h0 o) args s (hS o - hS h0) (hL o - hL h0) (aA (eB X))) (F0 m 15 ls [.ref t0, .ref t1]) := by
  obtain ⟨h_1, eh_1, hE⟩ := nm_e2 hE
  refine pf_X11_14 C hW hZ rfl k_t1 k_t0 eh_1 dX11_init_15 (fun _ _ hW km hZ => ?_)
  replace hkl := hkl.tr km.l
  refine x_wc km ?_
  replace k_x0 := km.at k_x0 (by decide)
  refine lv_aload_n C.1 C.2.1 dX11_init_18 rfl (lv_at hl 0 rfl) ?_
  obtain ⟨a_2, ea_2, hE⟩ := nm_e2 hE
  obtain ⟨h_3, eh_3, hE⟩ := nm_e2 hE
  refine y_new C hW hZ hkl (moX11_init_22 hE) ⟨rfl, rfl⟩ i_X9 tyX9 tyX9_ok (by decide) rfl rfl dv_X9 m_34 m_35 m_2 eh_3 dX11_init_19 (fun _ hW km k_a_2 hZ => ?_)
  replace hkl := hkl.tr km
  refine x_nmA ea_2 ?_
  rw [← ea_2] at k_a_2
  replace k_x0 := km.at k_x0 (by decide)
  exact bX11_init_22 C k_x0 k_a_2 k_x0 hkl hW hZ _ (lv_sub hl [0] rfl) hE
set_option maxRecDepth 20000 in
theorem bX11_init_8 {p : Program} {l : Launch} {e : Env} {s : State} {m : MethodId} {args : Array Value} {below : List Frame} {meth : Method} {c : Code} {X : Ec} {h0 : Hp} {o : Hp} {F : Nat} (C : Cx X p s m args meth c RX11 cX11_init 2 none "<init>") {h : Hp} {x0 : Nat} {t0 : Nat} {t1 : Nat} {H : Heap} {locs : List Loc} (k_x0 : hK h x0 = 11) (k_t0 : hK h t0 = 9) (k_t1 : hK h t1 = 11) (hkl : Kl h0 h) (hW : Wx X h H) (hZ : va_S (aA (eB X)) s.heap H locs) (ls : Array Slot) (hl : lv_has ls 2 [(0, .ref x0)]) (hE : sX11_init_8 F h x0 t0 t1 = some o) : W p l e (rmA 9 205 h0 o) s m args below meth c H locs (hS h - hS h0) (hL h - hL h0) (MQ below (QVA X h0 o) args s (hS o - hS h0) (hL o - hL h0) (aA (eB X))) (F0 m 8 ls [.ref t0, .ref t1]) := by
  refine lv_dup C.1 C.2.1 dX11_init_8 rfl ?_
  refine lv_sipush (v := (1200 : Int32)) C.1 C.2.1 dX11_init_9 (by decide) ?_
  obtain ⟨o_1, eo_1, hE⟩ := cl_e hE
  have m1 := moX9_init eo_1
  have m2 := moX11_init_15 hE
  refine x_kVA (o := o_1) hkl (z_runI (As := [.int (1200 : Int32)]) (rest := [.ref t0, .ref t1]) C (ct_X9_init l X k_t0 eo_1) ci_X11_11 hW hZ rfl hl.1 (Nat.le_of_ble_eq_true rfl) rfl dX11_init_12 ⟨Nat.le_of_ble_eq_true rfl, Nat.le_of_ble_eq_true rfl⟩ (rm_ok hkl m1 m2)) hZ (fun _ _ hW km hZ => ?_)
  replace hkl := hkl.tr km
  replace k_x0 := km.at k_x0 (by decide)
  replace k_t0 := km.at k_t0 (by decide)
  replace k_t1 := km.at k_t1 (by decide)
  exact bX11_init_15 C k_x0 k_t0 k_t1 hkl hW hZ _ (lv_sub hl [0] rfl) hE
set_option maxRecDepth 20000 in
theorem ct_X11_init (l : Launch) (X : Ec) (F : Nat) {h : Hp} {x0 : Nat} {o : Hp} (k_x0 : hK h x0 = 11) (hE : sX11_init F h x0 = some o) : MetVA l yX11_init cX11_init 2 none 9 205 X [.ref x0] h o := by
  refine x_metA (oh := o) (by decide) (Nat.le_of_ble_eq_true rfl) ?_
  intro p e s m below meth c ls C hl hW hZ
  have hl : lv_has ls 2 [(0, .ref x0)] := hl
  have hkl : Kl h h := Kl.rf h
  refine lv_aload_n C.1 C.2.1 dX11_init_0 rfl (lv_at hl 0 rfl) ?_
  refine W.objInit C.1 C.2.1 C.2.2.2.1 (C.2.2.2.2.1 _ m_31) (C.2.2.2.2.1 _ m_32) (C.2.2.2.2.1 _ m_33) rfl (by rw [C.2.2.1]; exact hl.1) rfl dX11_init_1 (Nat.le_of_ble_eq_true rfl) (Nat.le_of_ble_eq_true rfl) ?_
  refine W.eq (g2 := F0 m 4 ls []) rfl ?_
  refine lv_aload_n C.1 C.2.1 dX11_init_4 rfl (lv_at hl 0 rfl) ?_
  obtain ⟨a_1, ea_1, hE⟩ := nm_e2 hE
  obtain ⟨h_2, eh_2, hE⟩ := nm_e2 hE
  refine y_new C hW hZ hkl (moX11_init_8 hE) ⟨rfl, rfl⟩ i_X9 tyX9 tyX9_ok (by decide) rfl rfl dv_X9 m_34 m_35 m_2 eh_2 dX11_init_5 (fun _ hW km k_a_1 hZ => ?_)
  replace hkl := hkl.tr km
  refine x_nmA ea_1 ?_
  rw [← ea_1] at k_a_1
  replace k_x0 := km.at k_x0 (by decide)
  exact bX11_init_8 C k_x0 k_a_1 k_x0 hkl hW hZ _ (lv_sub hl [0] rfl) hE
