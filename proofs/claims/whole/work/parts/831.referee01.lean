set_option maxRecDepth 100000 in
theorem m_7 : Cond.initialized RX5 ∈ W0 := w0_in (List.mem_append_right _ (List.mem_of_getElem? (i := 7) rfl)) rfl
set_option maxRecDepth 100000 in
theorem m_226 : Cond.fieldLink RX5 51 (TX10 0).1 (TX10 0).2.1 (TX10 0).2.2.1 ∈ W0 := w0_in (List.mem_append_right _ (List.mem_of_getElem? (i := 226) rfl)) rfl
set_option maxRecDepth 100000 in
theorem m_228 : Cond.fieldLink RX5 54 (TX10 1).1 (TX10 1).2.1 (TX10 1).2.2.1 ∈ W0 := w0_in (List.mem_append_right _ (List.mem_of_getElem? (i := 228) rfl)) rfl
set_option maxRecDepth 100000 in
theorem m_302 : Cond.fieldLink RX5 78 (TX3 5).1 (TX3 5).2.1 (TX3 5).2.2.1 ∈ W0 := w0_in (List.mem_append_right _ (List.mem_of_getElem? (i := 302) rfl)) rfl
set_option maxRecDepth 100000 in
theorem m_319 : Cond.fieldLink RX5 150 (TX3 10).1 (TX3 10).2.1 (TX3 10).2.2.1 ∈ W0 := w0_in (List.mem_append_right _ (List.mem_of_getElem? (i := 319) rfl)) rfl
set_option maxRecDepth 100000 in
theorem m_1053 : Cond.methodLink RX5 335 yX3_passSize ∈ W0 := w0_in (List.mem_append_right _ (List.mem_of_getElem? (i := 1053) rfl)) rfl
set_option maxRecDepth 100000 in
theorem m_1058 : Cond.methodLink RX5 138 yX3_occupied ∈ W0 := w0_in (List.mem_append_right _ (List.mem_of_getElem? (i := 1058) rfl)) rfl
set_option maxRecDepth 100000 in
theorem m_1059 : Cond.instanceMethod yX3_occupied ∈ W0 := w0_in (List.mem_append_right _ (List.mem_of_getElem? (i := 1059) rfl)) rfl
set_option maxRecDepth 100000 in
theorem m_1060 : Cond.selects RX3 yX3_occupied yX3_occupied ∈ W0 := w0_in (List.mem_append_right _ (List.mem_of_getElem? (i := 1060) rfl)) rfl
set_option maxRecDepth 100000 in
theorem m_1061 : Cond.code yX3_occupied cX3_occupied 1 (some .long) ∈ W0 := w0_in (List.mem_append_right _ (List.mem_of_getElem? (i := 1061) rfl)) rfl
set_option maxRecDepth 100000 in
theorem m_1062 : Cond.methodLink RX5 142 yX10_cell ∈ W0 := w0_in (List.mem_append_right _ (List.mem_of_getElem? (i := 1062) rfl)) rfl
set_option maxRecDepth 100000 in
theorem m_1063 : Cond.methodLink RX5 339 yX5_wentOver ∈ W0 := w0_in (List.mem_append_right _ (List.mem_of_getElem? (i := 1063) rfl)) rfl
set_option maxRecDepth 100000 in
theorem m_1064 : Cond.static yX5_wentOver ∈ W0 := w0_in (List.mem_append_right _ (List.mem_of_getElem? (i := 1064) rfl)) rfl
set_option maxRecDepth 100000 in
theorem m_1065 : Cond.code yX5_wentOver cX5_wentOver 5 (some .boolean) ∈ W0 := w0_in (List.mem_append_right _ (List.mem_of_getElem? (i := 1065) rfl)) rfl
section
variable {p : Program} {l : Launch} {e : Env} {R : Room} {s : State} {m : MethodId} {args : Array Value} {below : List Frame} {meth : Method} {c : Code} {H : Heap} {locs : List Loc} {cells slots : Nat} {Q : State → Prop}
variable {cc : ByteArray} {pc : Nat} {ls : Array Slot} {rest : List Value} {X : Ec} {h h1 : Hp} {nL : Nat} {rt : Option FieldType} {mn : String}
theorem gf_X5_26 {a r : Nat} (C : Cx X p s m args meth c RX5 cc nL rt mn) (hW : Wx X h H) (ha : hK h a = 5) (hr : hR h a 1 = some r) (hdg : decode cc pc = .ok (.getfield 26, 3)) (kk : hK h r = 10 → W p l e R s m args below meth c H locs cells slots Q (F0 m (pc + 3) ls (.ref r :: rest))) : W p l e R s m args below meth c H locs cells slots Q (F0 m pc ls (.ref a :: rest)) :=
  y_getr C hW ha i_X5 (by decide) rfl (by decide) m_345 rfl rfl hr hdg kk
theorem gf_X5_51 {a r : Nat} (C : Cx X p s m args meth c RX5 cc nL rt mn) (hW : Wx X h H) (ha : hK h a = 10) (hr : hR h a 0 = some r) (hdg : decode cc pc = .ok (.getfield 51, 3)) (kk : hK h r = 17 → W p l e R s m args below meth c H locs cells slots Q (F0 m (pc + 3) ls (.ref r :: rest))) : W p l e R s m args below meth c H locs cells slots Q (F0 m pc ls (.ref a :: rest)) :=
  y_getr C hW ha i_X10 (by decide) rfl (by decide) m_226 rfl rfl hr hdg kk
theorem gf_X5_54 {a r : Nat} (C : Cx X p s m args meth c RX5 cc nL rt mn) (hW : Wx X h H) (ha : hK h a = 10) (hr : hR h a 1 = some r) (hdg : decode cc pc = .ok (.getfield 54, 3)) (kk : hK h r = 17 → W p l e R s m args below meth c H locs cells slots Q (F0 m (pc + 3) ls (.ref r :: rest))) : W p l e R s m args below meth c H locs cells slots Q (F0 m pc ls (.ref a :: rest)) :=
  y_getr C hW ha i_X10 (by decide) rfl (by decide) m_228 rfl rfl hr hdg kk
theorem gf_X5_78 {a : Nat} (C : Cx X p s m args meth c RX5 cc nL rt mn) (hW : Wx X h H) (ha : hK h a = 3) (hdg : decode cc pc = .ok (.getfield 78, 3)) (kk : W p l e R s m args below meth c H locs cells slots Q (F0 m (pc + 3) ls (.int (hI h a 5) :: rest))) : W p l e R s m args below meth c H locs cells slots Q (F0 m pc ls (.ref a :: rest)) :=
  y_geti C hW ha i_X3 (by decide) rfl (by decide) m_302 rfl hdg kk
theorem gf_X5_150 {a : Nat} (C : Cx X p s m args meth c RX5 cc nL rt mn) (hW : Wx X h H) (ha : hK h a = 3) (hdg : decode cc pc = .ok (.getfield 150, 3)) (kk : W p l e R s m args below meth c H locs cells slots Q (F0 m (pc + 3) ls (.long (hJ h a 10) :: rest))) : W p l e R s m args below meth c H locs cells slots Q (F0 m pc ls (.ref a :: rest)) :=
  y_getj C hW ha i_X3 (by decide) rfl (by decide) m_319 rfl hdg kk
end
theorem cw_X5_339 : cwd RX5 339 yX5_wentOver cX5_wentOver 5 (some .boolean) true 3 := ⟨m_1065, m_1063, m_7, m_1064, by decide, by decide, by decide +kernel⟩
theorem cw_X5_142 : cwd RX5 142 yX10_cell cX10_cell 3 (some .int) true 3 := ⟨m_816, m_1062, m_6, m_815, by decide, by decide, by decide +kernel⟩
theorem cw_X5_335 : cwd RX5 335 yX3_passSize cX3_passSize 1 (some .int) false 0 := ⟨m_989, m_1053, m_8, ⟨m_987, m_988⟩, by decide, by decide, by decide +kernel⟩
theorem cw_X5_138 : cwd RX5 138 yX3_occupied cX3_occupied 1 (some .long) false 0 := ⟨m_1061, m_1058, m_8, ⟨m_1059, m_1060⟩, by decide, by decide, by decide +kernel⟩
theorem dX5_hasRightPass_0 : decode cX5_hasRightPass 0 = .ok (.aload_n 1, 1) := by decide +kernel
theorem dX5_hasRightPass_1 : decode cX5_hasRightPass 1 = .ok (.invokevirtual 335, 3) := by decide +kernel
theorem dX5_hasRightPass_4 : decode cX5_hasRightPass 4 = .ok (.istore_n 2, 1) := by decide +kernel
theorem dX5_hasRightPass_5 : decode cX5_hasRightPass 5 = .ok (.aload_n 1, 1) := by decide +kernel
theorem dX5_hasRightPass_6 : decode cX5_hasRightPass 6 = .ok (.iconst 0, 1) := by decide +kernel
theorem dX5_hasRightPass_7 : decode cX5_hasRightPass 7 = .ok (.invokevirtual 173, 3) := by decide +kernel
theorem dX5_hasRightPass_10 : decode cX5_hasRightPass 10 = .ok (.istore_n 3, 1) := by decide +kernel
theorem dX5_hasRightPass_11 : decode cX5_hasRightPass 11 = .ok (.aload_n 1, 1) := by decide +kernel
theorem dX5_hasRightPass_12 : decode cX5_hasRightPass 12 = .ok (.getfield 42, 3) := by decide +kernel
theorem dX5_hasRightPass_15 : decode cX5_hasRightPass 15 = .ok (.iload_n 3, 1) := by decide +kernel
theorem dX5_hasRightPass_16 : decode cX5_hasRightPass 16 = .ok (.baload, 1) := by decide +kernel
theorem dX5_hasRightPass_17 : decode cX5_hasRightPass 17 = .ok (.istore 4, 2) := by decide +kernel
theorem dX5_hasRightPass_19 : decode cX5_hasRightPass 19 = .ok (.iload_n 2, 1) := by decide +kernel
theorem dX5_hasRightPass_20 : decode cX5_hasRightPass 20 = .ok (.iconst 2, 1) := by decide +kernel
theorem dX5_hasRightPass_21 : decode cX5_hasRightPass 21 = .ok (.if_icmp .lt 34, 3) := by decide +kernel
theorem dX5_hasRightPass_24 : decode cX5_hasRightPass 24 = .ok (.iload 4, 2) := by decide +kernel
theorem dX5_hasRightPass_26 : decode cX5_hasRightPass 26 = .ok (.iconst (-1), 1) := by decide +kernel
theorem dX5_hasRightPass_27 : decode cX5_hasRightPass 27 = .ok (.if_icmp .eq 28, 3) := by decide +kernel
theorem dX5_hasRightPass_30 : decode cX5_hasRightPass 30 = .ok (.iload 4, 2) := by decide +kernel
theorem dX5_hasRightPass_32 : decode cX5_hasRightPass 32 = .ok (.iconst 1, 1) := by decide +kernel
theorem dX5_hasRightPass_33 : decode cX5_hasRightPass 33 = .ok (.iand, 1) := by decide +kernel
theorem dX5_hasRightPass_34 : decode cX5_hasRightPass 34 = .ok (.aload_n 1, 1) := by decide +kernel
theorem dX5_hasRightPass_35 : decode cX5_hasRightPass 35 = .ok (.getfield 78, 3) := by decide +kernel
theorem dX5_hasRightPass_38 : decode cX5_hasRightPass 38 = .ok (.if_icmp .eq 17, 3) := by decide +kernel
theorem dX5_hasRightPass_41 : decode cX5_hasRightPass 41 = .ok (.aload_n 1, 1) := by decide +kernel
theorem dX5_hasRightPass_42 : decode cX5_hasRightPass 42 = .ok (.getfield 150, 3) := by decide +kernel
theorem dX5_hasRightPass_45 : decode cX5_hasRightPass 45 = .ok (.aload_n 1, 1) := by decide +kernel
theorem dX5_hasRightPass_46 : decode cX5_hasRightPass 46 = .ok (.invokevirtual 138, 3) := by decide +kernel
theorem dX5_hasRightPass_49 : decode cX5_hasRightPass 49 = .ok (.land, 1) := by decide +kernel
theorem dX5_hasRightPass_50 : decode cX5_hasRightPass 50 = .ok (.lconst 0, 1) := by decide +kernel
theorem dX5_hasRightPass_51 : decode cX5_hasRightPass 51 = .ok (.lcmp, 1) := by decide +kernel
theorem dX5_hasRightPass_52 : decode cX5_hasRightPass 52 = .ok (.ifCond .eq 5, 3) := by decide +kernel
theorem dX5_hasRightPass_55 : decode cX5_hasRightPass 55 = .ok (.iconst 0, 1) := by decide +kernel
theorem dX5_hasRightPass_56 : decode cX5_hasRightPass 56 = .ok (.ireturn, 1) := by decide +kernel
theorem dX5_hasRightPass_57 : decode cX5_hasRightPass 57 = .ok (.iconst 0, 1) := by decide +kernel
theorem dX5_hasRightPass_58 : decode cX5_hasRightPass 58 = .ok (.istore 5, 2) := by decide +kernel
theorem dX5_hasRightPass_60 : decode cX5_hasRightPass 60 = .ok (.iload 5, 2) := by decide +kernel
theorem dX5_hasRightPass_62 : decode cX5_hasRightPass 62 = .ok (.aload_n 0, 1) := by decide +kernel
theorem dX5_hasRightPass_63 : decode cX5_hasRightPass 63 = .ok (.getfield 22, 3) := by decide +kernel
theorem dX5_hasRightPass_66 : decode cX5_hasRightPass 66 = .ok (.getfield 110, 3) := by decide +kernel
theorem dX5_hasRightPass_69 : decode cX5_hasRightPass 69 = .ok (.if_icmp .ge 116, 3) := by decide +kernel
theorem dX5_hasRightPass_72 : decode cX5_hasRightPass 72 = .ok (.aload_n 1, 1) := by decide +kernel
theorem dX5_hasRightPass_73 : decode cX5_hasRightPass 73 = .ok (.getfield 42, 3) := by decide +kernel
theorem dX5_hasRightPass_76 : decode cX5_hasRightPass 76 = .ok (.iload 5, 2) := by decide +kernel
theorem dX5_hasRightPass_78 : decode cX5_hasRightPass 78 = .ok (.baload, 1) := by decide +kernel
theorem dX5_hasRightPass_79 : decode cX5_hasRightPass 79 = .ok (.iconst (-1), 1) := by decide +kernel
theorem dX5_hasRightPass_80 : decode cX5_hasRightPass 80 = .ok (.if_icmp .eq 6, 3) := by decide +kernel
theorem dX5_hasRightPass_83 : decode cX5_hasRightPass 83 = .ok (.goto 96, 3) := by decide +kernel
theorem dX5_hasRightPass_86 : decode cX5_hasRightPass 86 = .ok (.iload 4, 2) := by decide +kernel
theorem dX5_hasRightPass_88 : decode cX5_hasRightPass 88 = .ok (.iload 5, 2) := by decide +kernel
theorem dX5_hasRightPass_90 : decode cX5_hasRightPass 90 = .ok (.iload_n 3, 1) := by decide +kernel
theorem dX5_hasRightPass_91 : decode cX5_hasRightPass 91 = .ok (.invokestatic 142, 3) := by decide +kernel
theorem dX5_hasRightPass_94 : decode cX5_hasRightPass 94 = .ok (.istore 6, 2) := by decide +kernel
theorem dX5_hasRightPass_96 : decode cX5_hasRightPass 96 = .ok (.aload_n 0, 1) := by decide +kernel
theorem dX5_hasRightPass_97 : decode cX5_hasRightPass 97 = .ok (.getfield 26, 3) := by decide +kernel
theorem dX5_hasRightPass_100 : decode cX5_hasRightPass 100 = .ok (.getfield 51, 3) := by decide +kernel
theorem dX5_hasRightPass_103 : decode cX5_hasRightPass 103 = .ok (.iload 6, 2) := by decide +kernel
theorem dX5_hasRightPass_105 : decode cX5_hasRightPass 105 = .ok (.iaload, 1) := by decide +kernel
theorem dX5_hasRightPass_106 : decode cX5_hasRightPass 106 = .ok (.istore 7, 2) := by decide +kernel
theorem dX5_hasRightPass_108 : decode cX5_hasRightPass 108 = .ok (.iload 7, 2) := by decide +kernel
theorem dX5_hasRightPass_110 : decode cX5_hasRightPass 110 = .ok (.aload_n 0, 1) := by decide +kernel
theorem dX5_hasRightPass_111 : decode cX5_hasRightPass 111 = .ok (.getfield 26, 3) := by decide +kernel
theorem dX5_hasRightPass_114 : decode cX5_hasRightPass 114 = .ok (.getfield 51, 3) := by decide +kernel
theorem dX5_hasRightPass_117 : decode cX5_hasRightPass 117 = .ok (.iload 6, 2) := by decide +kernel
theorem dX5_hasRightPass_119 : decode cX5_hasRightPass 119 = .ok (.iconst 1, 1) := by decide +kernel
theorem dX5_hasRightPass_120 : decode cX5_hasRightPass 120 = .ok (.iadd, 1) := by decide +kernel
theorem dX5_hasRightPass_121 : decode cX5_hasRightPass 121 = .ok (.iaload, 1) := by decide +kernel
theorem dX5_hasRightPass_122 : decode cX5_hasRightPass 122 = .ok (.if_icmp .ge 57, 3) := by decide +kernel
theorem dX5_hasRightPass_125 : decode cX5_hasRightPass 125 = .ok (.aload_n 0, 1) := by decide +kernel
theorem dX5_hasRightPass_126 : decode cX5_hasRightPass 126 = .ok (.getfield 26, 3) := by decide +kernel
theorem dX5_hasRightPass_129 : decode cX5_hasRightPass 129 = .ok (.getfield 54, 3) := by decide +kernel
theorem dX5_hasRightPass_132 : decode cX5_hasRightPass 132 = .ok (.iload 7, 2) := by decide +kernel
theorem dX5_hasRightPass_134 : decode cX5_hasRightPass 134 = .ok (.iaload, 1) := by decide +kernel
theorem dX5_hasRightPass_135 : decode cX5_hasRightPass 135 = .ok (.bipush 6, 2) := by decide +kernel
theorem dX5_hasRightPass_137 : decode cX5_hasRightPass 137 = .ok (.ishr, 1) := by decide +kernel
theorem dX5_hasRightPass_138 : decode cX5_hasRightPass 138 = .ok (.bipush 16, 2) := by decide +kernel
theorem dX5_hasRightPass_140 : decode cX5_hasRightPass 140 = .ok (.iand, 1) := by decide +kernel
theorem dX5_hasRightPass_141 : decode cX5_hasRightPass 141 = .ok (.ifCond .eq 32, 3) := by decide +kernel
theorem dX5_hasRightPass_144 : decode cX5_hasRightPass 144 = .ok (.aload_n 0, 1) := by decide +kernel
theorem dX5_hasRightPass_145 : decode cX5_hasRightPass 145 = .ok (.getfield 26, 3) := by decide +kernel
theorem dX5_hasRightPass_148 : decode cX5_hasRightPass 148 = .ok (.getfield 54, 3) := by decide +kernel
theorem dX5_hasRightPass_151 : decode cX5_hasRightPass 151 = .ok (.iload 7, 2) := by decide +kernel
theorem dX5_hasRightPass_153 : decode cX5_hasRightPass 153 = .ok (.iaload, 1) := by decide +kernel
theorem dX5_hasRightPass_154 : decode cX5_hasRightPass 154 = .ok (.bipush 12, 2) := by decide +kernel
theorem dX5_hasRightPass_156 : decode cX5_hasRightPass 156 = .ok (.ishr, 1) := by decide +kernel
theorem dX5_hasRightPass_157 : decode cX5_hasRightPass 157 = .ok (.iload_n 2, 1) := by decide +kernel
theorem dX5_hasRightPass_158 : decode cX5_hasRightPass 158 = .ok (.if_icmp .ne 15, 3) := by decide +kernel
theorem dX5_hasRightPass_161 : decode cX5_hasRightPass 161 = .ok (.aload_n 1, 1) := by decide +kernel
theorem dX5_hasRightPass_162 : decode cX5_hasRightPass 162 = .ok (.iload 5, 2) := by decide +kernel
theorem dX5_hasRightPass_164 : decode cX5_hasRightPass 164 = .ok (.iload_n 2, 1) := by decide +kernel
theorem dX5_hasRightPass_165 : decode cX5_hasRightPass 165 = .ok (.invokestatic 339, 3) := by decide +kernel
theorem dX5_hasRightPass_168 : decode cX5_hasRightPass 168 = .ok (.ifCond .eq 5, 3) := by decide +kernel
theorem dX5_hasRightPass_171 : decode cX5_hasRightPass 171 = .ok (.iconst 1, 1) := by decide +kernel
theorem dX5_hasRightPass_172 : decode cX5_hasRightPass 172 = .ok (.ireturn, 1) := by decide +kernel
theorem dX5_hasRightPass_173 : decode cX5_hasRightPass 173 = .ok (.iinc 7 1, 3) := by decide +kernel
theorem dX5_hasRightPass_176 : decode cX5_hasRightPass 176 = .ok (.goto (-68), 3) := by decide +kernel
theorem dX5_hasRightPass_179 : decode cX5_hasRightPass 179 = .ok (.iinc 5 1, 3) := by decide +kernel
theorem dX5_hasRightPass_182 : decode cX5_hasRightPass 182 = .ok (.goto (-122), 3) := by decide +kernel
theorem dX5_hasRightPass_185 : decode cX5_hasRightPass 185 = .ok (.iconst 0, 1) := by decide +kernel
theorem dX5_hasRightPass_186 : decode cX5_hasRightPass 186 = .ok (.ireturn, 1) := by decide +kernel
set_option maxRecDepth 20000 in
theorem moX5_hasRightPass_55 {o : Int32 × Hp} {F : Nat} {h : Hp} (hE : sX5_hasRightPass_55 F h  = some o) : Le h o.2 := by
  exact le_some2 hE
set_option maxRecDepth 20000 in
theorem moX5_hasRightPass_179 {o : Int32 × Hp} {k_60 : Hp → Nat → Nat → Int32 → Int32 → Int32 → Int32 → Option (Int32 × Hp)} {F : Nat} (mk_60 : ∀ (h : Hp) (x0 : Nat) (x1 : Nat) (x2 : Int32) (x3 : Int32) (x4 : Int32) (x5 : Int32), k_60 h x0 x1 x2 x3 x4 x5 = some o → Le h o.2) {h : Hp} {x0 : Nat} {x1 : Nat} {x2 : Int32} {x3 : Int32} {x4 : Int32} {x5 : Int32} (hE : sX5_hasRightPass_179 F k_60 h x0 x1 x2 x3 x4 x5 = some o) : Le h o.2 := by
  obtain ⟨v_1, ev_1, hE⟩ := nm_e2 hE
  exact mk_60 _ _ _ _ _ _ _ hE
set_option maxRecDepth 20000 in
theorem moX5_hasRightPass_173 {o : Int32 × Hp} {k_60 : Hp → Nat → Nat → Int32 → Int32 → Int32 → Int32 → Option (Int32 × Hp)} {k_108 : Hp → Nat → Nat → Int32 → Int32 → Int32 → Int32 → Int32 → Int32 → Option (Int32 × Hp)} {F : Nat} (mk_60 : ∀ (h : Hp) (x0 : Nat) (x1 : Nat) (x2 : Int32) (x3 : Int32) (x4 : Int32) (x5 : Int32), k_60 h x0 x1 x2 x3 x4 x5 = some o → Le h o.2) (mk_108 : ∀ (h : Hp) (x0 : Nat) (x1 : Nat) (x2 : Int32) (x3 : Int32) (x4 : Int32) (x5 : Int32) (x6 : Int32) (x7 : Int32), k_108 h x0 x1 x2 x3 x4 x5 x6 x7 = some o → Le h o.2) {h : Hp} {x0 : Nat} {x1 : Nat} {x2 : Int32} {x3 : Int32} {x4 : Int32} {x5 : Int32} {x6 : Int32} {x7 : Int32} (hE : sX5_hasRightPass_173 F k_60 k_108 h x0 x1 x2 x3 x4 x5 x6 x7 = some o) : Le h o.2 := by
  obtain ⟨v_1, ev_1, hE⟩ := nm_e2 hE
  exact mk_108 _ _ _ _ _ _ _ _ _ hE
set_option maxRecDepth 20000 in
theorem moX5_hasRightPass_108 {o : Int32 × Hp} {k_60 : Hp → Nat → Nat → Int32 → Int32 → Int32 → Int32 → Option (Int32 × Hp)} {F : Nat} (mk_60 : ∀ (h : Hp) (x0 : Nat) (x1 : Nat) (x2 : Int32) (x3 : Int32) (x4 : Int32) (x5 : Int32), k_60 h x0 x1 x2 x3 x4 x5 = some o → Le h o.2) : ∀ (f : Nat) {h : Hp} {x0 : Nat} {x1 : Nat} {x2 : Int32} {x3 : Int32} {x4 : Int32} {x5 : Int32} {x6 : Int32} {x7 : Int32}, sX5_hasRightPass_108 F k_60 f h x0 x1 x2 x3 x4 x5 x6 x7 = some o → Le h o.2 := by
  intro f
  induction f with
  | zero =>
    intro h x0 x1 x2 x3 x4 x5 x6 x7 hE
    rw [sX5_hasRightPass_108] at hE
    cases hE
  | succ f ih =>
    intro h x0 x1 x2 x3 x4 x5 x6 x7 hE
    rw [sX5_hasRightPass_108] at hE
    have mk_108 : ∀ (h : Hp) (x0 : Nat) (x1 : Nat) (x2 : Int32) (x3 : Int32) (x4 : Int32) (x5 : Int32) (x6 : Int32) (x7 : Int32), sX5_hasRightPass_108 F k_60 f h x0 x1 x2 x3 x4 x5 x6 x7 = some o → Le h o.2 := fun h x0 x1 x2 x3 x4 x5 x6 x7 hE => ih hE
    obtain ⟨r_1, er_1, hE⟩ := cl_e hE
    obtain ⟨r_2, er_2, hE⟩ := cl_e hE
    obtain ⟨g_3, hE⟩ := gd_e hE
    rcases br_e hE with ⟨_, hE⟩ | ⟨_, hE⟩
    · exact moX5_hasRightPass_179 mk_60 hE
    · obtain ⟨r_5, er_5, hE⟩ := cl_e hE
      obtain ⟨r_6, er_6, hE⟩ := cl_e hE
      obtain ⟨g_7, hE⟩ := gd_e hE
      rcases br_e hE with ⟨_, hE⟩ | ⟨_, hE⟩
      · exact moX5_hasRightPass_173 mk_60 mk_108 hE
      · obtain ⟨r_9, er_9, hE⟩ := cl_e hE
        obtain ⟨r_10, er_10, hE⟩ := cl_e hE
        obtain ⟨g_11, hE⟩ := gd_e hE
        rcases br_e hE with ⟨_, hE⟩ | ⟨_, hE⟩
        · obtain ⟨o_13, eo_13, hE⟩ := cl_e hE
          refine (moX5_wentOver eo_13).tr ?_
          rcases br_e hE with ⟨_, hE⟩ | ⟨_, hE⟩
          · exact moX5_hasRightPass_173 mk_60 mk_108 hE
          · exact le_some2 hE
        · exact moX5_hasRightPass_173 mk_60 mk_108 hE
set_option maxRecDepth 20000 in
theorem moX5_hasRightPass_60 {o : Int32 × Hp} {F : Nat} : ∀ (f : Nat) {h : Hp} {x0 : Nat} {x1 : Nat} {x2 : Int32} {x3 : Int32} {x4 : Int32} {x5 : Int32}, sX5_hasRightPass_60 F f h x0 x1 x2 x3 x4 x5 = some o → Le h o.2 := by
  intro f
  induction f with
  | zero =>
    intro h x0 x1 x2 x3 x4 x5 hE
    rw [sX5_hasRightPass_60] at hE
    cases hE
  | succ f ih =>
    intro h x0 x1 x2 x3 x4 x5 hE
    rw [sX5_hasRightPass_60] at hE
    have mk_60 : ∀ (h : Hp) (x0 : Nat) (x1 : Nat) (x2 : Int32) (x3 : Int32) (x4 : Int32) (x5 : Int32), sX5_hasRightPass_60 F f h x0 x1 x2 x3 x4 x5 = some o → Le h o.2 := fun h x0 x1 x2 x3 x4 x5 hE => ih hE
    obtain ⟨r_1, er_1, hE⟩ := cl_e hE
    rcases br_e hE with ⟨_, hE⟩ | ⟨_, hE⟩
    · exact le_some2 hE
    · obtain ⟨r_3, er_3, hE⟩ := cl_e hE
      obtain ⟨g_4, hE⟩ := gd_e hE
      rcases br_e hE with ⟨_, hE⟩ | ⟨_, hE⟩
      · obtain ⟨o_6, eo_6, hE⟩ := cl_e hE
        refine (moX10_cell eo_6).tr ?_
        obtain ⟨r_7, er_7, hE⟩ := cl_e hE
        obtain ⟨r_8, er_8, hE⟩ := cl_e hE
        obtain ⟨g_9, hE⟩ := gd_e hE
        obtain ⟨v_10, ev_10, hE⟩ := nm_e2 hE
        exact moX5_hasRightPass_108 mk_60 _ hE
      · exact moX5_hasRightPass_179 mk_60 hE
set_option maxRecDepth 20000 in
theorem moX5_hasRightPass {o : Int32 × Hp} {F : Nat} {h : Hp} {x0 : Nat} {x1 : Nat} (hE : sX5_hasRightPass F h x0 x1 = some o) : Le h o.2 := by
  obtain ⟨o_1, eo_1, hE⟩ := cl_e hE
  refine (moX3_passSize eo_1).tr ?_
  obtain ⟨o_2, eo_2, hE⟩ := cl_e hE
  refine (moX3_passSquare eo_2).tr ?_
  obtain ⟨r_3, er_3, hE⟩ := cl_e hE
  obtain ⟨g_4, hE⟩ := gd_e hE
  obtain ⟨v_5, ev_5, hE⟩ := nm_e2 hE
  rcases br_e hE with ⟨_, hE⟩ | ⟨_, hE⟩
  · exact moX5_hasRightPass_55 hE
  · rcases br_e hE with ⟨_, hE⟩ | ⟨_, hE⟩
    · exact moX5_hasRightPass_55 hE
    · rcases br_e hE with ⟨_, hE⟩ | ⟨_, hE⟩
      · exact moX5_hasRightPass_55 hE
      · obtain ⟨o_9, eo_9, hE⟩ := cl_e hE
        refine (moX3_occupied eo_9).tr ?_
        rcases br_e hE with ⟨_, hE⟩ | ⟨_, hE⟩
        · exact moX5_hasRightPass_60 _ hE
        · exact moX5_hasRightPass_55 hE
set_option maxRecDepth 20000 in
theorem bX5_hasRightPass_55 {p : Program} {l : Launch} {e : Env} {s : State} {m : MethodId} {args : Array Value} {below : List Frame} {meth : Method} {c : Code} {X : Ec} {h0 : Hp} {o : Int32 × Hp} {F : Nat} (C : Cx X p s m args meth c RX5 cX5_hasRightPass 8 (some .boolean) "hasRightPass") {h : Hp} {H : Heap} {locs : List Loc} (hkm : Km h0 h) (hW : Wx X h H) (hZ : va_S (aA (eB X)) s.heap H locs) (ls : Array Slot) (hl : lv_has ls 8 []) (hE : sX5_hasRightPass_55 F h  = some o) : W p l e (rm 2 45) s m args below meth c H locs 0 0 (MQ below (QI X h0 o.1 o.2) args s 0 0 (aA (eB X))) (F0 m 55 ls []) := by
  refine lv_iconst (v := (0 : Int32)) C.1 C.2.1 dX5_hasRightPass_55 (by decide) ?_
  exact x_iret C rfl (by decide) hW hZ hkm hE dX5_hasRightPass_56
set_option maxRecDepth 20000 in
theorem bX5_hasRightPass_179 {p : Program} {l : Launch} {e : Env} {s : State} {m : MethodId} {args : Array Value} {below : List Frame} {meth : Method} {c : Code} {X : Ec} {h0 : Hp} {o : Int32 × Hp} {k_60 : Hp → Nat → Nat → Int32 → Int32 → Int32 → Int32 → Option (Int32 × Hp)} {F : Nat} (C : Cx X p s m args meth c RX5 cX5_hasRightPass 8 (some .boolean) "hasRightPass") (hk_60 : ∀ (h : Hp) (x0 : Nat) (x1 : Nat) (x2 : Int32) (x3 : Int32) (x4 : Int32) (x5 : Int32) (H : Heap) (locs : List Loc), hK h x0 = 5 → hK h x1 = 3 → Km h0 h → Wx X h H → va_S (aA (eB X)) s.heap H locs → ∀ (ls : Array Slot), lv_has ls 8 [(0, .ref x0), (1, .ref x1), (2, .int x2), (3, .int x3), (4, .int x4), (5, .int x5)] → k_60 h x0 x1 x2 x3 x4 x5 = some o → W p l e (rm 2 45) s m args below meth c H locs 0 0 (MQ below (QI X h0 o.1 o.2) args s 0 0 (aA (eB X))) (F0 m 60 ls [])) {h : Hp} {x0 : Nat} {x1 : Nat} {x2 : Int32} {x3 : Int32} {x4 : Int32} {x5 : Int32} {H : Heap} {locs : List Loc} (k_x0 : hK h x0 = 5) (k_x1 : hK h x1 = 3) (hkm : Km h0 h) (hW : Wx X h H) (hZ : va_S (aA (eB X)) s.heap H locs) (ls : Array Slot) (hl : lv_has ls 8 [(0, .ref x0), (1, .ref x1), (2, .int x2), (3, .int x3), (4, .int x4), (5, .int x5)]) (hE : sX5_hasRightPass_179 F k_60 h x0 x1 x2 x3 x4 x5 = some o) : W p l e (rm 2 45) s m args below meth c H locs 0 0 (MQ below (QI X h0 o.1 o.2) args s 0 0 (aA (eB X))) (F0 m 179 ls []) := by
  obtain ⟨v_1, ev_1, hE⟩ := nm_e2 hE
  refine lv_iinc (v := v_1) (lv' := [(5, .int v_1), (0, .ref x0), (1, .ref x1), (2, .int x2), (3, .int x3), (4, .int x4)]) C.1 C.2.1 dX5_hasRightPass_179 hl (k := 5) rfl (by rw [ev_1]; rfl) (by decide) rfl (fun ls hl => ?_)
  refine lv_goto (tgt := 60) C.1 C.2.1 dX5_hasRightPass_182 (by decide) ?_
  exact hk_60 _ _ _ _ _ _ _ _ _ k_x0 k_x1 hkm hW hZ _ (lv_sub hl [1, 2, 3, 4, 5, 0] rfl) hE
set_option maxRecDepth 20000 in
theorem bX5_hasRightPass_173 {p : Program} {l : Launch} {e : Env} {s : State} {m : MethodId} {args : Array Value} {below : List Frame} {meth : Method} {c : Code} {X : Ec} {h0 : Hp} {o : Int32 × Hp} {k_60 : Hp → Nat → Nat → Int32 → Int32 → Int32 → Int32 → Option (Int32 × Hp)} {k_108 : Hp → Nat → Nat → Int32 → Int32 → Int32 → Int32 → Int32 → Int32 → Option (Int32 × Hp)} {F : Nat} (C : Cx X p s m args meth c RX5 cX5_hasRightPass 8 (some .boolean) "hasRightPass") (hk_60 : ∀ (h : Hp) (x0 : Nat) (x1 : Nat) (x2 : Int32) (x3 : Int32) (x4 : Int32) (x5 : Int32) (H : Heap) (locs : List Loc), hK h x0 = 5 → hK h x1 = 3 → Km h0 h → Wx X h H → va_S (aA (eB X)) s.heap H locs → ∀ (ls : Array Slot), lv_has ls 8 [(0, .ref x0), (1, .ref x1), (2, .int x2), (3, .int x3), (4, .int x4), (5, .int x5)] → k_60 h x0 x1 x2 x3 x4 x5 = some o → W p l e (rm 2 45) s m args below meth c H locs 0 0 (MQ below (QI X h0 o.1 o.2) args s 0 0 (aA (eB X))) (F0 m 60 ls [])) (hk_108 : ∀ (h : Hp) (x0 : Nat) (x1 : Nat) (x2 : Int32) (x3 : Int32) (x4 : Int32) (x5 : Int32) (x6 : Int32) (x7 : Int32) (H : Heap) (locs : List Loc), hK h x0 = 5 → hK h x1 = 3 → Km h0 h → Wx X h H → va_S (aA (eB X)) s.heap H locs → ∀ (ls : Array Slot), lv_has ls 8 [(0, .ref x0), (1, .ref x1), (2, .int x2), (3, .int x3), (4, .int x4), (5, .int x5), (6, .int x6), (7, .int x7)] → k_108 h x0 x1 x2 x3 x4 x5 x6 x7 = some o → W p l e (rm 2 45) s m args below meth c H locs 0 0 (MQ below (QI X h0 o.1 o.2) args s 0 0 (aA (eB X))) (F0 m 108 ls [])) {h : Hp} {x0 : Nat} {x1 : Nat} {x2 : Int32} {x3 : Int32} {x4 : Int32} {x5 : Int32} {x6 : Int32} {x7 : Int32} {H : Heap} {locs : List Loc} (k_x0 : hK h x0 = 5) (k_x1 : hK h x1 = 3) (hkm : Km h0 h) (hW : Wx X h H) (hZ : va_S (aA (eB X)) s.heap H locs) (ls : Array Slot) (hl : lv_has ls 8 [(0, .ref x0), (1, .ref x1), (2, .int x2), (3, .int x3), (4, .int x4), (5, .int x5), (6, .int x6), (7, .int x7)]) (hE : sX5_hasRightPass_173 F k_60 k_108 h x0 x1 x2 x3 x4 x5 x6 x7 = some o) : W p l e (rm 2 45) s m args below meth c H locs 0 0 (MQ below (QI X h0 o.1 o.2) args s 0 0 (aA (eB X))) (F0 m 173 ls []) := by
  obtain ⟨v_1, ev_1, hE⟩ := nm_e2 hE
  refine lv_iinc (v := v_1) (lv' := [(7, .int v_1), (0, .ref x0), (1, .ref x1), (2, .int x2), (3, .int x3), (4, .int x4), (5, .int x5), (6, .int x6)]) C.1 C.2.1 dX5_hasRightPass_173 hl (k := 7) rfl (by rw [ev_1]; rfl) (by decide) rfl (fun ls hl => ?_)
  refine lv_goto (tgt := 108) C.1 C.2.1 dX5_hasRightPass_176 (by decide) ?_
  exact hk_108 _ _ _ _ _ _ _ _ _ _ _ k_x0 k_x1 hkm hW hZ _ (lv_sub hl [1, 2, 3, 4, 5, 6, 7, 0] rfl) hE
set_option maxRecDepth 20000 in
theorem bX5_hasRightPass_108 {p : Program} {l : Launch} {e : Env} {s : State} {m : MethodId} {args : Array Value} {below : List Frame} {meth : Method} {c : Code} {X : Ec} {h0 : Hp} {o : Int32 × Hp} {k_60 : Hp → Nat → Nat → Int32 → Int32 → Int32 → Int32 → Option (Int32 × Hp)} {F : Nat} (C : Cx X p s m args meth c RX5 cX5_hasRightPass 8 (some .boolean) "hasRightPass") (hk_60 : ∀ (h : Hp) (x0 : Nat) (x1 : Nat) (x2 : Int32) (x3 : Int32) (x4 : Int32) (x5 : Int32) (H : Heap) (locs : List Loc), hK h x0 = 5 → hK h x1 = 3 → Km h0 h → Wx X h H → va_S (aA (eB X)) s.heap H locs → ∀ (ls : Array Slot), lv_has ls 8 [(0, .ref x0), (1, .ref x1), (2, .int x2), (3, .int x3), (4, .int x4), (5, .int x5)] → k_60 h x0 x1 x2 x3 x4 x5 = some o → W p l e (rm 2 45) s m args below meth c H locs 0 0 (MQ below (QI X h0 o.1 o.2) args s 0 0 (aA (eB X))) (F0 m 60 ls [])) : ∀ (f : Nat) {h : Hp} {x0 : Nat} {x1 : Nat} {x2 : Int32} {x3 : Int32} {x4 : Int32} {x5 : Int32} {x6 : Int32} {x7 : Int32} {H : Heap} {locs : List Loc} (k_x0 : hK h x0 = 5) (k_x1 : hK h x1 = 3), Km h0 h → Wx X h H → va_S (aA (eB X)) s.heap H locs → ∀ (ls : Array Slot), lv_has ls 8 [(0, .ref x0), (1, .ref x1), (2, .int x2), (3, .int x3), (4, .int x4), (5, .int x5), (6, .int x6), (7, .int x7)] → sX5_hasRightPass_108 F k_60 f h x0 x1 x2 x3 x4 x5 x6 x7 = some o → W p l e (rm 2 45) s m args below meth c H locs 0 0 (MQ below (QI X h0 o.1 o.2) args s 0 0 (aA (eB X))) (F0 m 108 ls []) := by
  intro f
  induction f with
  | zero =>
    intro h x0 x1 x2 x3 x4 x5 x6 x7 H locs k_x0 k_x1 hkm hW hZ ls hl hE
    rw [sX5_hasRightPass_108] at hE
    cases hE
  | succ f ih =>
    intro h x0 x1 x2 x3 x4 x5 x6 x7 H locs k_x0 k_x1 hkm hW hZ ls hl hE
    rw [sX5_hasRightPass_108] at hE
    have hk_108 : ∀ (h : Hp) (x0 : Nat) (x1 : Nat) (x2 : Int32) (x3 : Int32) (x4 : Int32) (x5 : Int32) (x6 : Int32) (x7 : Int32) (H : Heap) (locs : List Loc), hK h x0 = 5 → hK h x1 = 3 → Km h0 h → Wx X h H → va_S (aA (eB X)) s.heap H locs → ∀ (ls : Array Slot), lv_has ls 8 [(0, .ref x0), (1, .ref x1), (2, .int x2), (3, .int x3), (4, .int x4), (5, .int x5), (6, .int x6), (7, .int x7)] → sX5_hasRightPass_108 F k_60 f h x0 x1 x2 x3 x4 x5 x6 x7 = some o → W p l e (rm 2 45) s m args below meth c H locs 0 0 (MQ below (QI X h0 o.1 o.2) args s 0 0 (aA (eB X))) (F0 m 108 ls []) := fun h x0 x1 x2 x3 x4 x5 x6 x7 H locs k_x0 k_x1 a b c ls hl hE => ih k_x0 k_x1 a b c ls hl hE
    refine lv_iload C.1 C.2.1 dX5_hasRightPass_108 (lv_at hl 7 rfl) ?_
    refine lv_aload_n C.1 C.2.1 dX5_hasRightPass_110 rfl (lv_at hl 0 rfl) ?_
    obtain ⟨r_1, er_1, hE⟩ := cl_e hE
    refine gf_X5_26 C hW k_x0 er_1 dX5_hasRightPass_111 (fun k_r_1 => ?_)
    obtain ⟨r_2, er_2, hE⟩ := cl_e hE
    refine gf_X5_51 C hW k_r_1 er_2 dX5_hasRightPass_114 (fun k_r_2 => ?_)
    refine lv_iload C.1 C.2.1 dX5_hasRightPass_117 (lv_at hl 6 rfl) ?_
    refine lv_iconst (v := (1 : Int32)) C.1 C.2.1 dX5_hasRightPass_119 (by decide) ?_
    refine lv_iadd C.1 C.2.1 dX5_hasRightPass_120 ?_
    obtain ⟨g_3, hE⟩ := gd_e hE
    refine y_iald C hW k_r_2 g_3 dX5_hasRightPass_121 ?_
    refine lv_icmp_ge (tgt := 179) C.1 C.2.1 dX5_hasRightPass_122 (by decide) (fun c_4 => ?_) (fun c_4 => ?_)
    · have hE := br_p hE c_4
      exact bX5_hasRightPass_179 C hk_60 k_x0 k_x1 hkm hW hZ _ (lv_sub hl [0, 1, 2, 3, 4, 5] rfl) hE
    · have hE := br_n hE c_4
      refine lv_aload_n C.1 C.2.1 dX5_hasRightPass_125 rfl (lv_at hl 0 rfl) ?_
      obtain ⟨r_5, er_5, hE⟩ := cl_e hE
      refine gf_X5_26 C hW k_x0 er_5 dX5_hasRightPass_126 (fun k_r_5 => ?_)
      obtain ⟨r_6, er_6, hE⟩ := cl_e hE
      refine gf_X5_54 C hW k_r_5 er_6 dX5_hasRightPass_129 (fun k_r_6 => ?_)
      refine lv_iload C.1 C.2.1 dX5_hasRightPass_132 (lv_at hl 7 rfl) ?_
      obtain ⟨g_7, hE⟩ := gd_e hE
      refine y_iald C hW k_r_6 g_7 dX5_hasRightPass_134 ?_
      refine lv_bipush (v := (6 : Int32)) C.1 C.2.1 dX5_hasRightPass_135 (by decide) ?_
      refine lv_ishr C.1 C.2.1 dX5_hasRightPass_137 ?_
      refine lv_bipush (v := (16 : Int32)) C.1 C.2.1 dX5_hasRightPass_138 (by decide) ?_
      refine lv_iand C.1 C.2.1 dX5_hasRightPass_140 ?_
      refine lv_if_eq (tgt := 173) C.1 C.2.1 dX5_hasRightPass_141 (by decide) (fun c_8 => ?_) (fun c_8 => ?_)
      · have hE := br_p hE c_8
        exact bX5_hasRightPass_173 C hk_60 hk_108 k_x0 k_x1 hkm hW hZ _ (lv_sub hl [0, 1, 2, 3, 4, 5, 6, 7] rfl) hE
      · have hE := br_n hE c_8
        refine lv_aload_n C.1 C.2.1 dX5_hasRightPass_144 rfl (lv_at hl 0 rfl) ?_
        obtain ⟨r_9, er_9, hE⟩ := cl_e hE
        refine gf_X5_26 C hW k_x0 er_9 dX5_hasRightPass_145 (fun k_r_9 => ?_)
        obtain ⟨r_10, er_10, hE⟩ := cl_e hE
        refine gf_X5_54 C hW k_r_9 er_10 dX5_hasRightPass_148 (fun k_r_10 => ?_)
        refine lv_iload C.1 C.2.1 dX5_hasRightPass_151 (lv_at hl 7 rfl) ?_
        obtain ⟨g_11, hE⟩ := gd_e hE
        refine y_iald C hW k_r_10 g_11 dX5_hasRightPass_153 ?_
        refine lv_bipush (v := (12 : Int32)) C.1 C.2.1 dX5_hasRightPass_154 (by decide) ?_
        refine lv_ishr C.1 C.2.1 dX5_hasRightPass_156 ?_
        refine lv_iload_n C.1 C.2.1 dX5_hasRightPass_157 rfl (lv_at hl 2 rfl) ?_
        refine lv_icmp_ne (tgt := 173) C.1 C.2.1 dX5_hasRightPass_158 (by decide) (fun c_12 => ?_) (fun c_12 => ?_)
        · have hE := br_n hE c_12
          exact bX5_hasRightPass_173 C hk_60 hk_108 k_x0 k_x1 hkm hW hZ _ (lv_sub hl [0, 1, 2, 3, 4, 5, 6, 7] rfl) hE
        · have hE := br_p hE c_12
          refine lv_aload_n C.1 C.2.1 dX5_hasRightPass_161 rfl (lv_at hl 1 rfl) ?_
          refine lv_iload C.1 C.2.1 dX5_hasRightPass_162 (lv_at hl 5 rfl) ?_
          refine lv_iload_n C.1 C.2.1 dX5_hasRightPass_164 rfl (lv_at hl 2 rfl) ?_
          obtain ⟨o_13, eo_13, hE⟩ := cl_e hE
          refine x_kI (o := o_13) (z_runS (As := [.ref x1, .int x5, .int x2]) (rest := []) C (ct_X5_wentOver l X F k_x1 eo_13) cw_X5_339 hW hZ rfl hl.1 (Nat.le_of_ble_eq_true rfl) rfl dX5_hasRightPass_165 ⟨Nat.le_of_ble_eq_true rfl, Nat.le_of_ble_eq_true rfl⟩ ⟨Nat.le_refl _, Nat.le_refl _⟩) hZ (fun _ _ hW km hZ => ?_)
          replace hkm := hkm.tr km
          replace k_x0 := km.at k_x0 (by decide)
          replace k_x1 := km.at k_x1 (by decide)
          refine lv_if_eq (tgt := 173) C.1 C.2.1 dX5_hasRightPass_168 (by decide) (fun c_14 => ?_) (fun c_14 => ?_)
          · have hE := br_p hE c_14
            exact bX5_hasRightPass_173 C hk_60 hk_108 k_x0 k_x1 hkm hW hZ _ (lv_sub hl [0, 1, 2, 3, 4, 5, 6, 7] rfl) hE
          · have hE := br_n hE c_14
            refine lv_iconst (v := (1 : Int32)) C.1 C.2.1 dX5_hasRightPass_171 (by decide) ?_
            exact x_iret C rfl (by decide) hW hZ hkm hE dX5_hasRightPass_172
set_option maxRecDepth 20000 in
theorem bX5_hasRightPass_60 {p : Program} {l : Launch} {e : Env} {s : State} {m : MethodId} {args : Array Value} {below : List Frame} {meth : Method} {c : Code} {X : Ec} {h0 : Hp} {o : Int32 × Hp} {F : Nat} (C : Cx X p s m args meth c RX5 cX5_hasRightPass 8 (some .boolean) "hasRightPass") : ∀ (f : Nat) {h : Hp} {x0 : Nat} {x1 : Nat} {x2 : Int32} {x3 : Int32} {x4 : Int32} {x5 : Int32} {H : Heap} {locs : List Loc} (k_x0 : hK h x0 = 5) (k_x1 : hK h x1 = 3), Km h0 h → Wx X h H → va_S (aA (eB X)) s.heap H locs → ∀ (ls : Array Slot), lv_has ls 8 [(0, .ref x0), (1, .ref x1), (2, .int x2), (3, .int x3), (4, .int x4), (5, .int x5)] → sX5_hasRightPass_60 F f h x0 x1 x2 x3 x4 x5 = some o → W p l e (rm 2 45) s m args below meth c H locs 0 0 (MQ below (QI X h0 o.1 o.2) args s 0 0 (aA (eB X))) (F0 m 60 ls []) := by
  intro f
  induction f with
  | zero =>
    intro h x0 x1 x2 x3 x4 x5 H locs k_x0 k_x1 hkm hW hZ ls hl hE
    rw [sX5_hasRightPass_60] at hE
    cases hE
  | succ f ih =>
    intro h x0 x1 x2 x3 x4 x5 H locs k_x0 k_x1 hkm hW hZ ls hl hE
    rw [sX5_hasRightPass_60] at hE
    have hk_60 : ∀ (h : Hp) (x0 : Nat) (x1 : Nat) (x2 : Int32) (x3 : Int32) (x4 : Int32) (x5 : Int32) (H : Heap) (locs : List Loc), hK h x0 = 5 → hK h x1 = 3 → Km h0 h → Wx X h H → va_S (aA (eB X)) s.heap H locs → ∀ (ls : Array Slot), lv_has ls 8 [(0, .ref x0), (1, .ref x1), (2, .int x2), (3, .int x3), (4, .int x4), (5, .int x5)] → sX5_hasRightPass_60 F f h x0 x1 x2 x3 x4 x5 = some o → W p l e (rm 2 45) s m args below meth c H locs 0 0 (MQ below (QI X h0 o.1 o.2) args s 0 0 (aA (eB X))) (F0 m 60 ls []) := fun h x0 x1 x2 x3 x4 x5 H locs k_x0 k_x1 a b c ls hl hE => ih k_x0 k_x1 a b c ls hl hE
    refine lv_iload C.1 C.2.1 dX5_hasRightPass_60 (lv_at hl 5 rfl) ?_
    refine lv_aload_n C.1 C.2.1 dX5_hasRightPass_62 rfl (lv_at hl 0 rfl) ?_
    obtain ⟨r_1, er_1, hE⟩ := cl_e hE
    refine gf_X5_22 C hW k_x0 er_1 dX5_hasRightPass_63 (fun k_r_1 => ?_)
    refine gf_X5_110 C hW k_r_1 dX5_hasRightPass_66 ?_
    refine lv_icmp_ge (tgt := 185) C.1 C.2.1 dX5_hasRightPass_69 (by decide) (fun c_2 => ?_) (fun c_2 => ?_)
    · have hE := br_p hE c_2
      refine lv_iconst (v := (0 : Int32)) C.1 C.2.1 dX5_hasRightPass_185 (by decide) ?_
      exact x_iret C rfl (by decide) hW hZ hkm hE dX5_hasRightPass_186
    · have hE := br_n hE c_2
      refine lv_aload_n C.1 C.2.1 dX5_hasRightPass_72 rfl (lv_at hl 1 rfl) ?_
      obtain ⟨r_3, er_3, hE⟩ := cl_e hE
      refine gf_X5_42 C hW k_x1 er_3 dX5_hasRightPass_73 (fun k_r_3 => ?_)
      refine lv_iload C.1 C.2.1 dX5_hasRightPass_76 (lv_at hl 5 rfl) ?_
      obtain ⟨g_4, hE⟩ := gd_e hE
      refine y_bald C hW k_r_3 g_4 dX5_hasRightPass_78 ?_
      refine lv_iconst (v := (-1 : Int32)) C.1 C.2.1 dX5_hasRightPass_79 (by decide) ?_
      refine lv_icmp_eq (tgt := 86) C.1 C.2.1 dX5_hasRightPass_80 (by decide) (fun c_5 => ?_) (fun c_5 => ?_)
      · have hE := br_p hE c_5
        refine lv_iload C.1 C.2.1 dX5_hasRightPass_86 (lv_at hl 4 rfl) ?_
        refine lv_iload C.1 C.2.1 dX5_hasRightPass_88 (lv_at hl 5 rfl) ?_
        refine lv_iload_n C.1 C.2.1 dX5_hasRightPass_90 rfl (lv_at hl 3 rfl) ?_
        obtain ⟨o_6, eo_6, hE⟩ := cl_e hE
        refine x_kI (o := o_6) (z_runS (As := [.int x4, .int x5, .int x3]) (rest := []) C (ct_X10_cell l X eo_6) cw_X5_142 hW hZ rfl hl.1 (Nat.le_of_ble_eq_true rfl) rfl dX5_hasRightPass_91 ⟨Nat.le_of_ble_eq_true rfl, Nat.le_of_ble_eq_true rfl⟩ ⟨Nat.le_refl _, Nat.le_refl _⟩) hZ (fun _ _ hW km hZ => ?_)
        replace hkm := hkm.tr km
        replace k_x0 := km.at k_x0 (by decide)
        replace k_x1 := km.at k_x1 (by decide)
        refine lv_istore (lv' := [(6, .int o_6.1), (0, .ref x0), (1, .ref x1), (2, .int x2), (3, .int x3), (4, .int x4), (5, .int x5)]) C.1 C.2.1 dX5_hasRightPass_94 hl (by decide) rfl (fun ls hl => ?_)
        refine lv_aload_n C.1 C.2.1 dX5_hasRightPass_96 rfl (lv_at hl 1 rfl) ?_
        obtain ⟨r_7, er_7, hE⟩ := cl_e hE
        refine gf_X5_26 C hW k_x0 er_7 dX5_hasRightPass_97 (fun k_r_7 => ?_)
        obtain ⟨r_8, er_8, hE⟩ := cl_e hE
        refine gf_X5_51 C hW k_r_7 er_8 dX5_hasRightPass_100 (fun k_r_8 => ?_)
        refine lv_iload C.1 C.2.1 dX5_hasRightPass_103 (lv_at hl 0 rfl) ?_
        obtain ⟨g_9, hE⟩ := gd_e hE
        refine y_iald C hW k_r_8 g_9 dX5_hasRightPass_105 ?_
        obtain ⟨v_10, ev_10, hE⟩ := nm_e2 hE
        refine x_nmI ev_10 ?_
        refine lv_istore (lv' := [(7, .int v_10), (6, .int o_6.1), (0, .ref x0), (1, .ref x1), (2, .int x2), (3, .int x3), (4, .int x4), (5, .int x5)]) C.1 C.2.1 dX5_hasRightPass_106 hl (by decide) rfl (fun ls hl => ?_)
        exact bX5_hasRightPass_108 C hk_60 F k_x0 k_x1 hkm hW hZ _ (lv_sub hl [2, 3, 4, 5, 6, 7, 1, 0] rfl) hE
      · have hE := br_n hE c_5
        refine lv_goto (tgt := 179) C.1 C.2.1 dX5_hasRightPass_83 (by decide) ?_
        exact bX5_hasRightPass_179 C hk_60 k_x0 k_x1 hkm hW hZ _ (lv_sub hl [0, 1, 2, 3, 4, 5] rfl) hE
set_option maxRecDepth 20000 in
theorem ct_X5_hasRightPass (l : Launch) (X : Ec) (F : Nat) {h : Hp} {x0 : Nat} {x1 : Nat} {o : Int32 × Hp} (k_x0 : hK h x0 = 5) (k_x1 : hK h x1 = 3) (hE : sX5_hasRightPass F h x0 x1 = some o) : MetI l yX5_hasRightPass cX5_hasRightPass 8 (some .boolean) 2 45 X [.ref x0, .ref x1] h o := by
  refine x_met (by decide) (Nat.le_of_ble_eq_true rfl) ?_
  intro p e s m below meth c ls C hl hW hZ
  have hl : lv_has ls 8 [(0, .ref x0), (1, .ref x1)] := hl
  have hkm : Km h h := Km.rf h
  refine lv_aload_n C.1 C.2.1 dX5_hasRightPass_0 rfl (lv_at hl 1 rfl) ?_
  obtain ⟨o_1, eo_1, hE⟩ := cl_e hE
  refine x_kI (o := o_1) (z_runV (As := []) (rest := []) C (ct_X3_passSize l X k_x1 eo_1) cw_X5_335 hW hZ k_x1 (by decide) rfl rfl rfl hl.1 (Nat.le_of_ble_eq_true rfl) rfl dX5_hasRightPass_1 ⟨Nat.le_of_ble_eq_true rfl, Nat.le_of_ble_eq_true rfl⟩ ⟨Nat.le_refl _, Nat.le_refl _⟩) hZ (fun _ _ hW km hZ => ?_)
  replace hkm := hkm.tr km
  replace k_x0 := km.at k_x0 (by decide)
  replace k_x1 := km.at k_x1 (by decide)
  refine lv_istore_n (lv' := [(2, .int o_1.1), (0, .ref x0), (1, .ref x1)]) C.1 C.2.1 dX5_hasRightPass_4 rfl hl (by decide) rfl (fun ls hl => ?_)
  refine lv_aload_n C.1 C.2.1 dX5_hasRightPass_5 rfl (lv_at hl 2 rfl) ?_
  refine lv_iconst (v := (0 : Int32)) C.1 C.2.1 dX5_hasRightPass_6 (by decide) ?_
  obtain ⟨o_2, eo_2, hE⟩ := cl_e hE
  refine x_kI (o := o_2) (z_runV (As := [.int (0 : Int32)]) (rest := []) C (ct_X3_passSquare l X k_x1 eo_2) cw_X5_173 hW hZ k_x1 (by decide) rfl rfl rfl hl.1 (Nat.le_of_ble_eq_true rfl) rfl dX5_hasRightPass_7 ⟨Nat.le_of_ble_eq_true rfl, Nat.le_of_ble_eq_true rfl⟩ ⟨Nat.le_refl _, Nat.le_refl _⟩) hZ (fun _ _ hW km hZ => ?_)
  replace hkm := hkm.tr km
  replace k_x0 := km.at k_x0 (by decide)
  replace k_x1 := km.at k_x1 (by decide)
  refine lv_istore_n (lv' := [(3, .int o_2.1), (2, .int o_1.1), (0, .ref x0), (1, .ref x1)]) C.1 C.2.1 dX5_hasRightPass_10 rfl hl (by decide) rfl (fun ls hl => ?_)
  refine lv_aload_n C.1 C.2.1 dX5_hasRightPass_11 rfl (lv_at hl 3 rfl) ?_
  obtain ⟨r_3, er_3, hE⟩ := cl_e hE
  refine gf_X5_42 C hW k_x1 er_3 dX5_hasRightPass_12 (fun k_r_3 => ?_)
  refine lv_iload_n C.1 C.2.1 dX5_hasRightPass_15 rfl (lv_at hl 0 rfl) ?_
  obtain ⟨g_4, hE⟩ := gd_e hE
  refine y_bald C hW k_r_3 g_4 dX5_hasRightPass_16 ?_
  obtain ⟨v_5, ev_5, hE⟩ := nm_e2 hE
  refine x_nmI ev_5 ?_
  refine lv_istore (lv' := [(4, .int v_5), (3, .int o_2.1), (2, .int o_1.1), (0, .ref x0), (1, .ref x1)]) C.1 C.2.1 dX5_hasRightPass_17 hl (by decide) rfl (fun ls hl => ?_)
  refine lv_iload_n C.1 C.2.1 dX5_hasRightPass_19 rfl (lv_at hl 2 rfl) ?_
  refine lv_iconst (v := (2 : Int32)) C.1 C.2.1 dX5_hasRightPass_20 (by decide) ?_
  refine lv_icmp_lt (tgt := 55) C.1 C.2.1 dX5_hasRightPass_21 (by decide) (fun c_6 => ?_) (fun c_6 => ?_)
  · have hE := br_p hE c_6
    exact bX5_hasRightPass_55 C hkm hW hZ _ (lv_sub hl [] rfl) hE
  · have hE := br_n hE c_6
    refine lv_iload C.1 C.2.1 dX5_hasRightPass_24 (lv_at hl 0 rfl) ?_
    refine lv_iconst (v := (-1 : Int32)) C.1 C.2.1 dX5_hasRightPass_26 (by decide) ?_
    refine lv_icmp_eq (tgt := 55) C.1 C.2.1 dX5_hasRightPass_27 (by decide) (fun c_7 => ?_) (fun c_7 => ?_)
    · have hE := br_p hE c_7
      exact bX5_hasRightPass_55 C hkm hW hZ _ (lv_sub hl [] rfl) hE
    · have hE := br_n hE c_7
      refine lv_iload C.1 C.2.1 dX5_hasRightPass_30 (lv_at hl 0 rfl) ?_
      refine lv_iconst (v := (1 : Int32)) C.1 C.2.1 dX5_hasRightPass_32 (by decide) ?_
      refine lv_iand C.1 C.2.1 dX5_hasRightPass_33 ?_
      refine lv_aload_n C.1 C.2.1 dX5_hasRightPass_34 rfl (lv_at hl 4 rfl) ?_
      refine gf_X5_78 C hW k_x1 dX5_hasRightPass_35 ?_
      refine lv_icmp_eq (tgt := 55) C.1 C.2.1 dX5_hasRightPass_38 (by decide) (fun c_8 => ?_) (fun c_8 => ?_)
      · have hE := br_p hE c_8
        exact bX5_hasRightPass_55 C hkm hW hZ _ (lv_sub hl [] rfl) hE
      · have hE := br_n hE c_8
        refine lv_aload_n C.1 C.2.1 dX5_hasRightPass_41 rfl (lv_at hl 4 rfl) ?_
        refine gf_X5_150 C hW k_x1 dX5_hasRightPass_42 ?_
        refine lv_aload_n C.1 C.2.1 dX5_hasRightPass_45 rfl (lv_at hl 4 rfl) ?_
        obtain ⟨o_9, eo_9, hE⟩ := cl_e hE
        refine x_kJ (o := o_9) (z_runV (As := []) (rest := [.long (hJ o_2.2 x1 10)]) C (ct_X3_occupied l X k_x1 eo_9) cw_X5_138 hW hZ k_x1 (by decide) rfl rfl rfl hl.1 (Nat.le_of_ble_eq_true rfl) rfl dX5_hasRightPass_46 ⟨Nat.le_of_ble_eq_true rfl, Nat.le_of_ble_eq_true rfl⟩ ⟨Nat.le_refl _, Nat.le_refl _⟩) hZ (fun _ _ hW km hZ => ?_)
        replace hkm := hkm.tr km
        replace k_x0 := km.at k_x0 (by decide)
        replace k_x1 := km.at k_x1 (by decide)
        refine lv_land C.1 C.2.1 dX5_hasRightPass_49 ?_
        refine lv_lconst (v := (0 : Int64)) C.1 C.2.1 dX5_hasRightPass_50 (by decide) ?_
        refine W.lcmp C.1 C.2.1 dX5_hasRightPass_51 ?_
        refine lv_if_eq (tgt := 57) C.1 C.2.1 dX5_hasRightPass_52 (by decide) (fun c_10 => ?_) (fun c_10 => ?_)
        · have hE := br_p hE c_10
          refine lv_iconst (v := (0 : Int32)) C.1 C.2.1 dX5_hasRightPass_57 (by decide) ?_
          refine lv_istore (lv' := [(5, .int (0 : Int32)), (4, .int v_5), (3, .int o_2.1), (2, .int o_1.1), (0, .ref x0), (1, .ref x1)]) C.1 C.2.1 dX5_hasRightPass_58 hl (by decide) rfl (fun ls hl => ?_)
          exact bX5_hasRightPass_60 C F k_x0 k_x1 hkm hW hZ _ (lv_sub hl [4, 5, 3, 2, 1, 0] rfl) hE
        · have hE := br_n hE c_10
          exact bX5_hasRightPass_55 C hkm hW hZ _ (lv_sub hl [] rfl) hE
set_option maxRecDepth 100000 in
theorem m_230 : Cond.fieldLink RX5 57 (TX10 2).1 (TX10 2).2.1 (TX10 2).2.2.1 ∈ W0 := w0_in (List.mem_append_right _ (List.mem_of_getElem? (i := 230) rfl)) rfl
set_option maxRecDepth 100000 in
theorem m_233 : Cond.fieldLink RX5 46 (TX10 4).1 (TX10 4).2.1 (TX10 4).2.2.1 ∈ W0 := w0_in (List.mem_append_right _ (List.mem_of_getElem? (i := 233) rfl)) rfl
set_option maxRecDepth 100000 in
theorem n_1074 : Cond.fieldLinkNest RX5 37 "GameRules" "SQUARE_OF" "[I" "GameRules" ∈ tables_1 := List.mem_of_getElem? (i := 1074) rfl
set_option maxRecDepth 100000 in
theorem m_1075 : Cond.constantLong RX5 40 (285870213051386505 : Int64) ∈ W0 := w0_in (List.mem_append_right _ (List.mem_of_getElem? (i := 1075) rfl)) rfl
section
variable {p : Program} {l : Launch} {e : Env} {R : Room} {s : State} {m : MethodId} {args : Array Value} {below : List Frame} {meth : Method} {c : Code} {H : Heap} {locs : List Loc} {cells slots : Nat} {Q : State → Prop}
variable {cc : ByteArray} {pc : Nat} {ls : Array Slot} {rest : List Value} {X : Ec} {h h1 : Hp} {nL : Nat} {rt : Option FieldType} {mn : String}
theorem gf_X5_57 {a r : Nat} (C : Cx X p s m args meth c RX5 cc nL rt mn) (hW : Wx X h H) (ha : hK h a = 10) (hr : hR h a 2 = some r) (hdg : decode cc pc = .ok (.getfield 57, 3)) (kk : hK h r = 18 → W p l e R s m args below meth c H locs cells slots Q (F0 m (pc + 3) ls (.ref r :: rest))) : W p l e R s m args below meth c H locs cells slots Q (F0 m pc ls (.ref a :: rest)) :=
  y_getr C hW ha i_X10 (by decide) rfl (by decide) m_230 rfl rfl hr hdg kk
theorem gf_X5_46 {a r : Nat} (C : Cx X p s m args meth c RX5 cc nL rt mn) (hW : Wx X h H) (ha : hK h a = 10) (hr : hR h a 4 = some r) (hdg : decode cc pc = .ok (.getfield 46, 3)) (kk : hK h r = 18 → W p l e R s m args below meth c H locs cells slots Q (F0 m (pc + 3) ls (.ref r :: rest))) : W p l e R s m args below meth c H locs cells slots Q (F0 m pc ls (.ref a :: rest)) :=
  y_getr C hW ha i_X10 (by decide) rfl (by decide) m_233 rfl rfl hr hdg kk
end
theorem dX5_isHit_0 : decode cX5_isHit 0 = .ok (.aload_n 1, 1) := by decide +kernel
theorem dX5_isHit_1 : decode cX5_isHit 1 = .ok (.getfield 33, 3) := by decide +kernel
theorem dX5_isHit_4 : decode cX5_isHit 4 = .ok (.iconst 0, 1) := by decide +kernel
theorem dX5_isHit_5 : decode cX5_isHit 5 = .ok (.laload, 1) := by decide +kernel
theorem dX5_isHit_6 : decode cX5_isHit 6 = .ok (.aload_n 1, 1) := by decide +kernel
theorem dX5_isHit_7 : decode cX5_isHit 7 = .ok (.getfield 33, 3) := by decide +kernel
theorem dX5_isHit_10 : decode cX5_isHit 10 = .ok (.iconst 1, 1) := by decide +kernel
theorem dX5_isHit_11 : decode cX5_isHit 11 = .ok (.laload, 1) := by decide +kernel
theorem dX5_isHit_12 : decode cX5_isHit 12 = .ok (.lor, 1) := by decide +kernel
theorem dX5_isHit_13 : decode cX5_isHit 13 = .ok (.lstore 4, 2) := by decide +kernel
theorem dX5_isHit_15 : decode cX5_isHit 15 = .ok (.aload_n 1, 1) := by decide +kernel
theorem dX5_isHit_16 : decode cX5_isHit 16 = .ok (.getfield 33, 3) := by decide +kernel
theorem dX5_isHit_19 : decode cX5_isHit 19 = .ok (.iload_n 3, 1) := by decide +kernel
theorem dX5_isHit_20 : decode cX5_isHit 20 = .ok (.laload, 1) := by decide +kernel
theorem dX5_isHit_21 : decode cX5_isHit 21 = .ok (.lstore 6, 2) := by decide +kernel
theorem dX5_isHit_23 : decode cX5_isHit 23 = .ok (.iconst 0, 1) := by decide +kernel
theorem dX5_isHit_24 : decode cX5_isHit 24 = .ok (.istore 8, 2) := by decide +kernel
theorem dX5_isHit_26 : decode cX5_isHit 26 = .ok (.iload 8, 2) := by decide +kernel
theorem dX5_isHit_28 : decode cX5_isHit 28 = .ok (.bipush 64, 2) := by decide +kernel
theorem dX5_isHit_30 : decode cX5_isHit 30 = .ok (.if_icmp .ge 225, 3) := by decide +kernel
theorem dX5_isHit_33 : decode cX5_isHit 33 = .ok (.lload 6, 2) := by decide +kernel
theorem dX5_isHit_35 : decode cX5_isHit 35 = .ok (.lconst 0, 1) := by decide +kernel
theorem dX5_isHit_36 : decode cX5_isHit 36 = .ok (.lcmp, 1) := by decide +kernel
theorem dX5_isHit_37 : decode cX5_isHit 37 = .ok (.ifCond .eq 218, 3) := by decide +kernel
theorem dX5_isHit_40 : decode cX5_isHit 40 = .ok (.lload 6, 2) := by decide +kernel
theorem dX5_isHit_42 : decode cX5_isHit 42 = .ok (.lload 6, 2) := by decide +kernel
theorem dX5_isHit_44 : decode cX5_isHit 44 = .ok (.lneg, 1) := by decide +kernel
theorem dX5_isHit_45 : decode cX5_isHit 45 = .ok (.land, 1) := by decide +kernel
theorem dX5_isHit_46 : decode cX5_isHit 46 = .ok (.lstore 9, 2) := by decide +kernel
theorem dX5_isHit_48 : decode cX5_isHit 48 = .ok (.lload 6, 2) := by decide +kernel
theorem dX5_isHit_50 : decode cX5_isHit 50 = .ok (.lload 9, 2) := by decide +kernel
theorem dX5_isHit_52 : decode cX5_isHit 52 = .ok (.lxor, 1) := by decide +kernel
theorem dX5_isHit_53 : decode cX5_isHit 53 = .ok (.lstore 6, 2) := by decide +kernel
theorem dX5_isHit_55 : decode cX5_isHit 55 = .ok (.getstatic 37, 3) := by decide +kernel
theorem dX5_isHit_58 : decode cX5_isHit 58 = .ok (.lload 9, 2) := by decide +kernel
theorem dX5_isHit_60 : decode cX5_isHit 60 = .ok (.ldc2_w 40, 3) := by decide +kernel
theorem dX5_isHit_63 : decode cX5_isHit 63 = .ok (.lmul, 1) := by decide +kernel
theorem dX5_isHit_64 : decode cX5_isHit 64 = .ok (.bipush 58, 2) := by decide +kernel
theorem dX5_isHit_66 : decode cX5_isHit 66 = .ok (.lushr, 1) := by decide +kernel
theorem dX5_isHit_67 : decode cX5_isHit 67 = .ok (.l2i, 1) := by decide +kernel
theorem dX5_isHit_68 : decode cX5_isHit 68 = .ok (.iaload, 1) := by decide +kernel
theorem dX5_isHit_69 : decode cX5_isHit 69 = .ok (.istore 11, 2) := by decide +kernel
theorem dX5_isHit_71 : decode cX5_isHit 71 = .ok (.aload_n 1, 1) := by decide +kernel
theorem dX5_isHit_72 : decode cX5_isHit 72 = .ok (.getfield 42, 3) := by decide +kernel
theorem dX5_isHit_75 : decode cX5_isHit 75 = .ok (.iload 11, 2) := by decide +kernel
theorem dX5_isHit_77 : decode cX5_isHit 77 = .ok (.baload, 1) := by decide +kernel
theorem dX5_isHit_78 : decode cX5_isHit 78 = .ok (.istore 12, 2) := by decide +kernel
theorem dX5_isHit_80 : decode cX5_isHit 80 = .ok (.aload_n 0, 1) := by decide +kernel
theorem dX5_isHit_81 : decode cX5_isHit 81 = .ok (.getfield 26, 3) := by decide +kernel
theorem dX5_isHit_84 : decode cX5_isHit 84 = .ok (.getfield 46, 3) := by decide +kernel
theorem dX5_isHit_87 : decode cX5_isHit 87 = .ok (.iload 12, 2) := by decide +kernel
theorem dX5_isHit_89 : decode cX5_isHit 89 = .ok (.bipush 64, 2) := by decide +kernel
theorem dX5_isHit_91 : decode cX5_isHit 91 = .ok (.imul, 1) := by decide +kernel
theorem dX5_isHit_92 : decode cX5_isHit 92 = .ok (.iload_n 2, 1) := by decide +kernel
theorem dX5_isHit_93 : decode cX5_isHit 93 = .ok (.iadd, 1) := by decide +kernel
theorem dX5_isHit_94 : decode cX5_isHit 94 = .ok (.laload, 1) := by decide +kernel
theorem dX5_isHit_95 : decode cX5_isHit 95 = .ok (.lload 9, 2) := by decide +kernel
theorem dX5_isHit_97 : decode cX5_isHit 97 = .ok (.land, 1) := by decide +kernel
theorem dX5_isHit_98 : decode cX5_isHit 98 = .ok (.lconst 0, 1) := by decide +kernel
theorem dX5_isHit_99 : decode cX5_isHit 99 = .ok (.lcmp, 1) := by decide +kernel
theorem dX5_isHit_100 : decode cX5_isHit 100 = .ok (.ifCond .ne 6, 3) := by decide +kernel
theorem dX5_isHit_103 : decode cX5_isHit 103 = .ok (.goto 146, 3) := by decide +kernel
theorem dX5_isHit_106 : decode cX5_isHit 106 = .ok (.iload 12, 2) := by decide +kernel
theorem dX5_isHit_108 : decode cX5_isHit 108 = .ok (.bipush 64, 2) := by decide +kernel
theorem dX5_isHit_110 : decode cX5_isHit 110 = .ok (.imul, 1) := by decide +kernel
theorem dX5_isHit_111 : decode cX5_isHit 111 = .ok (.iload 11, 2) := by decide +kernel
theorem dX5_isHit_113 : decode cX5_isHit 113 = .ok (.iadd, 1) := by decide +kernel
theorem dX5_isHit_114 : decode cX5_isHit 114 = .ok (.bipush 64, 2) := by decide +kernel
theorem dX5_isHit_116 : decode cX5_isHit 116 = .ok (.imul, 1) := by decide +kernel
theorem dX5_isHit_117 : decode cX5_isHit 117 = .ok (.iload_n 2, 1) := by decide +kernel
theorem dX5_isHit_118 : decode cX5_isHit 118 = .ok (.iadd, 1) := by decide +kernel
theorem dX5_isHit_119 : decode cX5_isHit 119 = .ok (.istore 13, 2) := by decide +kernel
theorem dX5_isHit_121 : decode cX5_isHit 121 = .ok (.aload_n 0, 1) := by decide +kernel
theorem dX5_isHit_122 : decode cX5_isHit 122 = .ok (.getfield 26, 3) := by decide +kernel
theorem dX5_isHit_125 : decode cX5_isHit 125 = .ok (.getfield 51, 3) := by decide +kernel
theorem dX5_isHit_128 : decode cX5_isHit 128 = .ok (.iload 13, 2) := by decide +kernel
theorem dX5_isHit_130 : decode cX5_isHit 130 = .ok (.iaload, 1) := by decide +kernel
theorem dX5_isHit_131 : decode cX5_isHit 131 = .ok (.istore 14, 2) := by decide +kernel
theorem dX5_isHit_133 : decode cX5_isHit 133 = .ok (.iload 14, 2) := by decide +kernel
theorem dX5_isHit_135 : decode cX5_isHit 135 = .ok (.aload_n 0, 1) := by decide +kernel
theorem dX5_isHit_136 : decode cX5_isHit 136 = .ok (.getfield 26, 3) := by decide +kernel
theorem dX5_isHit_139 : decode cX5_isHit 139 = .ok (.getfield 51, 3) := by decide +kernel
theorem dX5_isHit_142 : decode cX5_isHit 142 = .ok (.iload 13, 2) := by decide +kernel
theorem dX5_isHit_144 : decode cX5_isHit 144 = .ok (.iconst 1, 1) := by decide +kernel
theorem dX5_isHit_145 : decode cX5_isHit 145 = .ok (.iadd, 1) := by decide +kernel
theorem dX5_isHit_146 : decode cX5_isHit 146 = .ok (.iaload, 1) := by decide +kernel
theorem dX5_isHit_147 : decode cX5_isHit 147 = .ok (.if_icmp .ge 102, 3) := by decide +kernel
theorem dX5_isHit_150 : decode cX5_isHit 150 = .ok (.aload_n 0, 1) := by decide +kernel
theorem dX5_isHit_151 : decode cX5_isHit 151 = .ok (.getfield 26, 3) := by decide +kernel
theorem dX5_isHit_154 : decode cX5_isHit 154 = .ok (.getfield 54, 3) := by decide +kernel
theorem dX5_isHit_157 : decode cX5_isHit 157 = .ok (.iload 14, 2) := by decide +kernel
theorem dX5_isHit_159 : decode cX5_isHit 159 = .ok (.iaload, 1) := by decide +kernel
theorem dX5_isHit_160 : decode cX5_isHit 160 = .ok (.bipush 6, 2) := by decide +kernel
theorem dX5_isHit_162 : decode cX5_isHit 162 = .ok (.ishr, 1) := by decide +kernel
theorem dX5_isHit_163 : decode cX5_isHit 163 = .ok (.istore 15, 2) := by decide +kernel
theorem dX5_isHit_165 : decode cX5_isHit 165 = .ok (.aload_n 0, 1) := by decide +kernel
theorem dX5_isHit_166 : decode cX5_isHit 166 = .ok (.getfield 26, 3) := by decide +kernel
theorem dX5_isHit_169 : decode cX5_isHit 169 = .ok (.getfield 57, 3) := by decide +kernel
theorem dX5_isHit_172 : decode cX5_isHit 172 = .ok (.iload 14, 2) := by decide +kernel
theorem dX5_isHit_174 : decode cX5_isHit 174 = .ok (.laload, 1) := by decide +kernel
theorem dX5_isHit_175 : decode cX5_isHit 175 = .ok (.lload 4, 2) := by decide +kernel
theorem dX5_isHit_177 : decode cX5_isHit 177 = .ok (.land, 1) := by decide +kernel
theorem dX5_isHit_178 : decode cX5_isHit 178 = .ok (.lstore 16, 2) := by decide +kernel
theorem dX5_isHit_180 : decode cX5_isHit 180 = .ok (.iload 15, 2) := by decide +kernel
theorem dX5_isHit_182 : decode cX5_isHit 182 = .ok (.bipush 8, 2) := by decide +kernel
theorem dX5_isHit_184 : decode cX5_isHit 184 = .ok (.iand, 1) := by decide +kernel
theorem dX5_isHit_185 : decode cX5_isHit 185 = .ok (.ifCond .ne 18, 3) := by decide +kernel
theorem dX5_isHit_188 : decode cX5_isHit 188 = .ok (.lload 16, 2) := by decide +kernel
theorem dX5_isHit_190 : decode cX5_isHit 190 = .ok (.lconst 0, 1) := by decide +kernel
theorem dX5_isHit_191 : decode cX5_isHit 191 = .ok (.lcmp, 1) := by decide +kernel
theorem dX5_isHit_192 : decode cX5_isHit 192 = .ok (.ifCond .ne 7, 3) := by decide +kernel
theorem dX5_isHit_195 : decode cX5_isHit 195 = .ok (.iconst 1, 1) := by decide +kernel
theorem dX5_isHit_196 : decode cX5_isHit 196 = .ok (.goto 31, 3) := by decide +kernel
theorem dX5_isHit_199 : decode cX5_isHit 199 = .ok (.iconst 0, 1) := by decide +kernel
theorem dX5_isHit_200 : decode cX5_isHit 200 = .ok (.goto 27, 3) := by decide +kernel
theorem dX5_isHit_203 : decode cX5_isHit 203 = .ok (.lload 16, 2) := by decide +kernel
theorem dX5_isHit_205 : decode cX5_isHit 205 = .ok (.lconst 0, 1) := by decide +kernel
theorem dX5_isHit_206 : decode cX5_isHit 206 = .ok (.lcmp, 1) := by decide +kernel
theorem dX5_isHit_207 : decode cX5_isHit 207 = .ok (.ifCond .eq 19, 3) := by decide +kernel
theorem dX5_isHit_210 : decode cX5_isHit 210 = .ok (.lload 16, 2) := by decide +kernel
theorem dX5_isHit_212 : decode cX5_isHit 212 = .ok (.lload 16, 2) := by decide +kernel
theorem dX5_isHit_214 : decode cX5_isHit 214 = .ok (.lconst 1, 1) := by decide +kernel
theorem dX5_isHit_215 : decode cX5_isHit 215 = .ok (.lsub, 1) := by decide +kernel
theorem dX5_isHit_216 : decode cX5_isHit 216 = .ok (.land, 1) := by decide +kernel
theorem dX5_isHit_217 : decode cX5_isHit 217 = .ok (.lconst 0, 1) := by decide +kernel
theorem dX5_isHit_218 : decode cX5_isHit 218 = .ok (.lcmp, 1) := by decide +kernel
theorem dX5_isHit_219 : decode cX5_isHit 219 = .ok (.ifCond .ne 7, 3) := by decide +kernel
theorem dX5_isHit_222 : decode cX5_isHit 222 = .ok (.iconst 1, 1) := by decide +kernel
theorem dX5_isHit_223 : decode cX5_isHit 223 = .ok (.goto 4, 3) := by decide +kernel
theorem dX5_isHit_226 : decode cX5_isHit 226 = .ok (.iconst 0, 1) := by decide +kernel
theorem dX5_isHit_227 : decode cX5_isHit 227 = .ok (.istore 18, 2) := by decide +kernel
theorem dX5_isHit_229 : decode cX5_isHit 229 = .ok (.iload 18, 2) := by decide +kernel
theorem dX5_isHit_231 : decode cX5_isHit 231 = .ok (.ifCond .eq 12, 3) := by decide +kernel
theorem dX5_isHit_234 : decode cX5_isHit 234 = .ok (.iload 15, 2) := by decide +kernel
theorem dX5_isHit_236 : decode cX5_isHit 236 = .ok (.iconst 1, 1) := by decide +kernel
theorem dX5_isHit_237 : decode cX5_isHit 237 = .ok (.iand, 1) := by decide +kernel
theorem dX5_isHit_238 : decode cX5_isHit 238 = .ok (.ifCond .ne 5, 3) := by decide +kernel
theorem dX5_isHit_241 : decode cX5_isHit 241 = .ok (.iconst 1, 1) := by decide +kernel
theorem dX5_isHit_242 : decode cX5_isHit 242 = .ok (.ireturn, 1) := by decide +kernel
theorem dX5_isHit_243 : decode cX5_isHit 243 = .ok (.iinc 14 1, 3) := by decide +kernel
theorem dX5_isHit_246 : decode cX5_isHit 246 = .ok (.goto (-113), 3) := by decide +kernel
theorem dX5_isHit_249 : decode cX5_isHit 249 = .ok (.iinc 8 1, 3) := by decide +kernel
theorem dX5_isHit_252 : decode cX5_isHit 252 = .ok (.goto (-226), 3) := by decide +kernel
theorem dX5_isHit_255 : decode cX5_isHit 255 = .ok (.iconst 0, 1) := by decide +kernel
theorem dX5_isHit_256 : decode cX5_isHit 256 = .ok (.ireturn, 1) := by decide +kernel
set_option maxRecDepth 20000 in
theorem moX5_isHit_255 {o : Int32 × Hp} {F : Nat} {h : Hp} (hE : sX5_isHit_255 F h  = some o) : Le h o.2 := by
  exact le_some2 hE
set_option maxRecDepth 20000 in
theorem moX5_isHit_249 {o : Int32 × Hp} {k_26 : Hp → Nat → Nat → Int32 → Int64 → Int64 → Int32 → Option (Int32 × Hp)} {F : Nat} (mk_26 : ∀ (h : Hp) (x0 : Nat) (x1 : Nat) (x2 : Int32) (x4 : Int64) (x6 : Int64) (x8 : Int32), k_26 h x0 x1 x2 x4 x6 x8 = some o → Le h o.2) {h : Hp} {x0 : Nat} {x1 : Nat} {x2 : Int32} {x4 : Int64} {x6 : Int64} {x8 : Int32} (hE : sX5_isHit_249 F k_26 h x0 x1 x2 x4 x6 x8 = some o) : Le h o.2 := by
  obtain ⟨v_1, ev_1, hE⟩ := nm_e2 hE
  exact mk_26 _ _ _ _ _ _ _ hE
set_option maxRecDepth 20000 in
theorem moX5_isHit_243 {o : Int32 × Hp} {k_26 : Hp → Nat → Nat → Int32 → Int64 → Int64 → Int32 → Option (Int32 × Hp)} {k_133 : Hp → Nat → Nat → Int32 → Int64 → Int64 → Int32 → Int32 → Int32 → Option (Int32 × Hp)} {F : Nat} (mk_26 : ∀ (h : Hp) (x0 : Nat) (x1 : Nat) (x2 : Int32) (x4 : Int64) (x6 : Int64) (x8 : Int32), k_26 h x0 x1 x2 x4 x6 x8 = some o → Le h o.2) (mk_133 : ∀ (h : Hp) (x0 : Nat) (x1 : Nat) (x2 : Int32) (x4 : Int64) (x6 : Int64) (x8 : Int32) (x13 : Int32) (x14 : Int32), k_133 h x0 x1 x2 x4 x6 x8 x13 x14 = some o → Le h o.2) {h : Hp} {x0 : Nat} {x1 : Nat} {x2 : Int32} {x4 : Int64} {x6 : Int64} {x8 : Int32} {x13 : Int32} {x14 : Int32} (hE : sX5_isHit_243 F k_26 k_133 h x0 x1 x2 x4 x6 x8 x13 x14 = some o) : Le h o.2 := by
  obtain ⟨v_1, ev_1, hE⟩ := nm_e2 hE
  exact mk_133 _ _ _ _ _ _ _ _ _ hE
set_option maxRecDepth 20000 in
theorem moX5_isHit_227 {o : Int32 × Hp} {k_26 : Hp → Nat → Nat → Int32 → Int64 → Int64 → Int32 → Option (Int32 × Hp)} {k_133 : Hp → Nat → Nat → Int32 → Int64 → Int64 → Int32 → Int32 → Int32 → Option (Int32 × Hp)} {F : Nat} (mk_26 : ∀ (h : Hp) (x0 : Nat) (x1 : Nat) (x2 : Int32) (x4 : Int64) (x6 : Int64) (x8 : Int32), k_26 h x0 x1 x2 x4 x6 x8 = some o → Le h o.2) (mk_133 : ∀ (h : Hp) (x0 : Nat) (x1 : Nat) (x2 : Int32) (x4 : Int64) (x6 : Int64) (x8 : Int32) (x13 : Int32) (x14 : Int32), k_133 h x0 x1 x2 x4 x6 x8 x13 x14 = some o → Le h o.2) {h : Hp} {x0 : Nat} {x1 : Nat} {x2 : Int32} {x4 : Int64} {x6 : Int64} {x8 : Int32} {x13 : Int32} {x14 : Int32} {x15 : Int32} {t0 : Int32} (hE : sX5_isHit_227 F k_26 k_133 h x0 x1 x2 x4 x6 x8 x13 x14 x15 t0 = some o) : Le h o.2 := by
  rcases br_e hE with ⟨_, hE⟩ | ⟨_, hE⟩
  · exact moX5_isHit_243 mk_26 mk_133 hE
  · rcases br_e hE with ⟨_, hE⟩ | ⟨_, hE⟩
    · exact le_some2 hE
    · exact moX5_isHit_243 mk_26 mk_133 hE
set_option maxRecDepth 20000 in
theorem moX5_isHit_226 {o : Int32 × Hp} {k_26 : Hp → Nat → Nat → Int32 → Int64 → Int64 → Int32 → Option (Int32 × Hp)} {k_133 : Hp → Nat → Nat → Int32 → Int64 → Int64 → Int32 → Int32 → Int32 → Option (Int32 × Hp)} {F : Nat} (mk_26 : ∀ (h : Hp) (x0 : Nat) (x1 : Nat) (x2 : Int32) (x4 : Int64) (x6 : Int64) (x8 : Int32), k_26 h x0 x1 x2 x4 x6 x8 = some o → Le h o.2) (mk_133 : ∀ (h : Hp) (x0 : Nat) (x1 : Nat) (x2 : Int32) (x4 : Int64) (x6 : Int64) (x8 : Int32) (x13 : Int32) (x14 : Int32), k_133 h x0 x1 x2 x4 x6 x8 x13 x14 = some o → Le h o.2) {h : Hp} {x0 : Nat} {x1 : Nat} {x2 : Int32} {x4 : Int64} {x6 : Int64} {x8 : Int32} {x13 : Int32} {x14 : Int32} {x15 : Int32} (hE : sX5_isHit_226 F k_26 k_133 h x0 x1 x2 x4 x6 x8 x13 x14 x15 = some o) : Le h o.2 := by
  exact moX5_isHit_227 mk_26 mk_133 hE
set_option maxRecDepth 20000 in
theorem moX5_isHit_133 {o : Int32 × Hp} {k_26 : Hp → Nat → Nat → Int32 → Int64 → Int64 → Int32 → Option (Int32 × Hp)} {F : Nat} (mk_26 : ∀ (h : Hp) (x0 : Nat) (x1 : Nat) (x2 : Int32) (x4 : Int64) (x6 : Int64) (x8 : Int32), k_26 h x0 x1 x2 x4 x6 x8 = some o → Le h o.2) : ∀ (f : Nat) {h : Hp} {x0 : Nat} {x1 : Nat} {x2 : Int32} {x4 : Int64} {x6 : Int64} {x8 : Int32} {x13 : Int32} {x14 : Int32}, sX5_isHit_133 F k_26 f h x0 x1 x2 x4 x6 x8 x13 x14 = some o → Le h o.2 := by
  intro f
  induction f with
  | zero =>
    intro h x0 x1 x2 x4 x6 x8 x13 x14 hE
    rw [sX5_isHit_133] at hE
    cases hE
  | succ f ih =>
    intro h x0 x1 x2 x4 x6 x8 x13 x14 hE
    rw [sX5_isHit_133] at hE
    have mk_133 : ∀ (h : Hp) (x0 : Nat) (x1 : Nat) (x2 : Int32) (x4 : Int64) (x6 : Int64) (x8 : Int32) (x13 : Int32) (x14 : Int32), sX5_isHit_133 F k_26 f h x0 x1 x2 x4 x6 x8 x13 x14 = some o → Le h o.2 := fun h x0 x1 x2 x4 x6 x8 x13 x14 hE => ih hE
    obtain ⟨r_1, er_1, hE⟩ := cl_e hE
    obtain ⟨r_2, er_2, hE⟩ := cl_e hE
    obtain ⟨g_3, hE⟩ := gd_e hE
    rcases br_e hE with ⟨_, hE⟩ | ⟨_, hE⟩
    · exact moX5_isHit_249 mk_26 hE
    · obtain ⟨r_5, er_5, hE⟩ := cl_e hE
      obtain ⟨r_6, er_6, hE⟩ := cl_e hE
      obtain ⟨g_7, hE⟩ := gd_e hE
      obtain ⟨v_8, ev_8, hE⟩ := nm_e2 hE
      obtain ⟨r_9, er_9, hE⟩ := cl_e hE
      obtain ⟨r_10, er_10, hE⟩ := cl_e hE
      obtain ⟨g_11, hE⟩ := gd_e hE
      obtain ⟨v_12, ev_12, hE⟩ := nm_e2 hE
      rcases br_e hE with ⟨_, hE⟩ | ⟨_, hE⟩
      · rcases br_e hE with ⟨_, hE⟩ | ⟨_, hE⟩
        · exact moX5_isHit_227 mk_26 mk_133 hE
        · exact moX5_isHit_227 mk_26 mk_133 hE
      · rcases br_e hE with ⟨_, hE⟩ | ⟨_, hE⟩
        · exact moX5_isHit_226 mk_26 mk_133 hE
        · rcases br_e hE with ⟨_, hE⟩ | ⟨_, hE⟩
          · exact moX5_isHit_227 mk_26 mk_133 hE
          · exact moX5_isHit_226 mk_26 mk_133 hE
set_option maxRecDepth 20000 in
theorem moX5_isHit_26 {o : Int32 × Hp} {F : Nat} : ∀ (f : Nat) {h : Hp} {x0 : Nat} {x1 : Nat} {x2 : Int32} {x4 : Int64} {x6 : Int64} {x8 : Int32}, sX5_isHit_26 F f h x0 x1 x2 x4 x6 x8 = some o → Le h o.2 := by
  intro f
  induction f with
  | zero =>
    intro h x0 x1 x2 x4 x6 x8 hE
    rw [sX5_isHit_26] at hE
    cases hE
  | succ f ih =>
    intro h x0 x1 x2 x4 x6 x8 hE
    rw [sX5_isHit_26] at hE
    have mk_26 : ∀ (h : Hp) (x0 : Nat) (x1 : Nat) (x2 : Int32) (x4 : Int64) (x6 : Int64) (x8 : Int32), sX5_isHit_26 F f h x0 x1 x2 x4 x6 x8 = some o → Le h o.2 := fun h x0 x1 x2 x4 x6 x8 hE => ih hE
    rcases br_e hE with ⟨_, hE⟩ | ⟨_, hE⟩
    · exact moX5_isHit_255 hE
    · rcases br_e hE with ⟨_, hE⟩ | ⟨_, hE⟩
      · exact moX5_isHit_255 hE
      · obtain ⟨v_3, ev_3, hE⟩ := nm_e2 hE
        obtain ⟨v_4, ev_4, hE⟩ := nm_e2 hE
        obtain ⟨g_5, hE⟩ := gd_e hE
        obtain ⟨v_6, ev_6, hE⟩ := nm_e2 hE
        obtain ⟨r_7, er_7, hE⟩ := cl_e hE
        obtain ⟨g_8, hE⟩ := gd_e hE
        obtain ⟨v_9, ev_9, hE⟩ := nm_e2 hE
        obtain ⟨r_10, er_10, hE⟩ := cl_e hE
        obtain ⟨r_11, er_11, hE⟩ := cl_e hE
        obtain ⟨g_12, hE⟩ := gd_e hE
        rcases br_e hE with ⟨_, hE⟩ | ⟨_, hE⟩
        · exact moX5_isHit_249 mk_26 hE
        · obtain ⟨v_14, ev_14, hE⟩ := nm_e2 hE
          obtain ⟨r_15, er_15, hE⟩ := cl_e hE
          obtain ⟨r_16, er_16, hE⟩ := cl_e hE
          obtain ⟨g_17, hE⟩ := gd_e hE
          obtain ⟨v_18, ev_18, hE⟩ := nm_e2 hE
          exact moX5_isHit_133 mk_26 _ hE
set_option maxRecDepth 20000 in
theorem moX5_isHit {o : Int32 × Hp} {F : Nat} {h : Hp} {x0 : Nat} {x1 : Nat} {x2 : Int32} {x3 : Int32} (hE : sX5_isHit F h x0 x1 x2 x3 = some o) : Le h o.2 := by
  obtain ⟨r_1, er_1, hE⟩ := cl_e hE
  obtain ⟨g_2, hE⟩ := gd_e hE
  obtain ⟨r_3, er_3, hE⟩ := cl_e hE
  obtain ⟨g_4, hE⟩ := gd_e hE
  obtain ⟨v_5, ev_5, hE⟩ := nm_e2 hE
  obtain ⟨r_6, er_6, hE⟩ := cl_e hE
  obtain ⟨g_7, hE⟩ := gd_e hE
  obtain ⟨v_8, ev_8, hE⟩ := nm_e2 hE
  exact moX5_isHit_26 _ hE
set_option maxRecDepth 20000 in
theorem bX5_isHit_255 {p : Program} {l : Launch} {e : Env} {s : State} {m : MethodId} {args : Array Value} {below : List Frame} {meth : Method} {c : Code} {X : Ec} {h0 : Hp} {o : Int32 × Hp} {F : Nat} (C : Cx X p s m args meth c RX5 cX5_isHit 19 (some .boolean) "isHit") {h : Hp} {H : Heap} {locs : List Loc} (hkm : Km h0 h) (hW : Wx X h H) (hZ : va_S (aA (eB X)) s.heap H locs) (ls : Array Slot) (hl : lv_has ls 19 []) (hE : sX5_isHit_255 F h  = some o) : W p l e (rm 0 0) s m args below meth c H locs 0 0 (MQ below (QI X h0 o.1 o.2) args s 0 0 (aA (eB X))) (F0 m 255 ls []) := by
  refine lv_iconst (v := (0 : Int32)) C.1 C.2.1 dX5_isHit_255 (by decide) ?_
  exact x_iret C rfl (by decide) hW hZ hkm hE dX5_isHit_256
set_option maxRecDepth 20000 in
theorem bX5_isHit_249 {p : Program} {l : Launch} {e : Env} {s : State} {m : MethodId} {args : Array Value} {below : List Frame} {meth : Method} {c : Code} {X : Ec} {h0 : Hp} {o : Int32 × Hp} {k_26 : Hp → Nat → Nat → Int32 → Int64 → Int64 → Int32 → Option (Int32 × Hp)} {F : Nat} (C : Cx X p s m args meth c RX5 cX5_isHit 19 (some .boolean) "isHit") (hk_26 : ∀ (h : Hp) (x0 : Nat) (x1 : Nat) (x2 : Int32) (x4 : Int64) (x6 : Int64) (x8 : Int32) (H : Heap) (locs : List Loc), hK h x0 = 5 → hK h x1 = 3 → Km h0 h → Wx X h H → va_S (aA (eB X)) s.heap H locs → ∀ (ls : Array Slot), lv_has ls 19 [(0, .ref x0), (1, .ref x1), (2, .int x2), (4, .long x4), (6, .long x6), (8, .int x8)] → k_26 h x0 x1 x2 x4 x6 x8 = some o → W p l e (rm 0 0) s m args below meth c H locs 0 0 (MQ below (QI X h0 o.1 o.2) args s 0 0 (aA (eB X))) (F0 m 26 ls [])) {h : Hp} {x0 : Nat} {x1 : Nat} {x2 : Int32} {x4 : Int64} {x6 : Int64} {x8 : Int32} {H : Heap} {locs : List Loc} (k_x0 : hK h x0 = 5) (k_x1 : hK h x1 = 3) (hkm : Km h0 h) (hW : Wx X h H) (hZ : va_S (aA (eB X)) s.heap H locs) (ls : Array Slot) (hl : lv_has ls 19 [(0, .ref x0), (1, .ref x1), (2, .int x2), (4, .long x4), (6, .long x6), (8, .int x8)]) (hE : sX5_isHit_249 F k_26 h x0 x1 x2 x4 x6 x8 = some o) : W p l e (rm 0 0) s m args below meth c H locs 0 0 (MQ below (QI X h0 o.1 o.2) args s 0 0 (aA (eB X))) (F0 m 249 ls []) := by
  obtain ⟨v_1, ev_1, hE⟩ := nm_e2 hE
  refine lv_iinc (v := v_1) (lv' := [(8, .int v_1), (0, .ref x0), (1, .ref x1), (2, .int x2), (4, .long x4), (6, .long x6)]) C.1 C.2.1 dX5_isHit_249 hl (k := 5) rfl (by rw [ev_1]; rfl) (by decide) rfl (fun ls hl => ?_)
  refine lv_goto (tgt := 26) C.1 C.2.1 dX5_isHit_252 (by decide) ?_
  exact hk_26 _ _ _ _ _ _ _ _ _ k_x0 k_x1 hkm hW hZ _ (lv_sub hl [1, 2, 3, 4, 5, 0] rfl) hE
set_option maxRecDepth 20000 in
theorem bX5_isHit_243 {p : Program} {l : Launch} {e : Env} {s : State} {m : MethodId} {args : Array Value} {below : List Frame} {meth : Method} {c : Code} {X : Ec} {h0 : Hp} {o : Int32 × Hp} {k_26 : Hp → Nat → Nat → Int32 → Int64 → Int64 → Int32 → Option (Int32 × Hp)} {k_133 : Hp → Nat → Nat → Int32 → Int64 → Int64 → Int32 → Int32 → Int32 → Option (Int32 × Hp)} {F : Nat} (C : Cx X p s m args meth c RX5 cX5_isHit 19 (some .boolean) "isHit") (hk_26 : ∀ (h : Hp) (x0 : Nat) (x1 : Nat) (x2 : Int32) (x4 : Int64) (x6 : Int64) (x8 : Int32) (H : Heap) (locs : List Loc), hK h x0 = 5 → hK h x1 = 3 → Km h0 h → Wx X h H → va_S (aA (eB X)) s.heap H locs → ∀ (ls : Array Slot), lv_has ls 19 [(0, .ref x0), (1, .ref x1), (2, .int x2), (4, .long x4), (6, .long x6), (8, .int x8)] → k_26 h x0 x1 x2 x4 x6 x8 = some o → W p l e (rm 0 0) s m args below meth c H locs 0 0 (MQ below (QI X h0 o.1 o.2) args s 0 0 (aA (eB X))) (F0 m 26 ls [])) (hk_133 : ∀ (h : Hp) (x0 : Nat) (x1 : Nat) (x2 : Int32) (x4 : Int64) (x6 : Int64) (x8 : Int32) (x13 : Int32) (x14 : Int32) (H : Heap) (locs : List Loc), hK h x0 = 5 → hK h x1 = 3 → Km h0 h → Wx X h H → va_S (aA (eB X)) s.heap H locs → ∀ (ls : Array Slot), lv_has ls 19 [(0, .ref x0), (1, .ref x1), (2, .int x2), (4, .long x4), (6, .long x6), (8, .int x8), (13, .int x13), (14, .int x14)] → k_133 h x0 x1 x2 x4 x6 x8 x13 x14 = some o → W p l e (rm 0 0) s m args below meth c H locs 0 0 (MQ below (QI X h0 o.1 o.2) args s 0 0 (aA (eB X))) (F0 m 133 ls [])) {h : Hp} {x0 : Nat} {x1 : Nat} {x2 : Int32} {x4 : Int64} {x6 : Int64} {x8 : Int32} {x13 : Int32} {x14 : Int32} {H : Heap} {locs : List Loc} (k_x0 : hK h x0 = 5) (k_x1 : hK h x1 = 3) (hkm : Km h0 h) (hW : Wx X h H) (hZ : va_S (aA (eB X)) s.heap H locs) (ls : Array Slot) (hl : lv_has ls 19 [(0, .ref x0), (1, .ref x1), (2, .int x2), (4, .long x4), (6, .long x6), (8, .int x8), (13, .int x13), (14, .int x14)]) (hE : sX5_isHit_243 F k_26 k_133 h x0 x1 x2 x4 x6 x8 x13 x14 = some o) : W p l e (rm 0 0) s m args below meth c H locs 0 0 (MQ below (QI X h0 o.1 o.2) args s 0 0 (aA (eB X))) (F0 m 243 ls []) := by
  obtain ⟨v_1, ev_1, hE⟩ := nm_e2 hE
  refine lv_iinc (v := v_1) (lv' := [(14, .int v_1), (0, .ref x0), (1, .ref x1), (2, .int x2), (4, .long x4), (6, .long x6), (8, .int x8), (13, .int x13)]) C.1 C.2.1 dX5_isHit_243 hl (k := 7) rfl (by rw [ev_1]; rfl) (by decide) rfl (fun ls hl => ?_)
  refine lv_goto (tgt := 133) C.1 C.2.1 dX5_isHit_246 (by decide) ?_
  exact hk_133 _ _ _ _ _ _ _ _ _ _ _ k_x0 k_x1 hkm hW hZ _ (lv_sub hl [1, 2, 3, 4, 5, 6, 7, 0] rfl) hE
set_option maxRecDepth 20000 in
theorem bX5_isHit_227 {p : Program} {l : Launch} {e : Env} {s : State} {m : MethodId} {args : Array Value} {below : List Frame} {meth : Method} {c : Code} {X : Ec} {h0 : Hp} {o : Int32 × Hp} {k_26 : Hp → Nat → Nat → Int32 → Int64 → Int64 → Int32 → Option (Int32 × Hp)} {k_133 : Hp → Nat → Nat → Int32 → Int64 → Int64 → Int32 → Int32 → Int32 → Option (Int32 × Hp)} {F : Nat} (C : Cx X p s m args meth c RX5 cX5_isHit 19 (some .boolean) "isHit") (hk_26 : ∀ (h : Hp) (x0 : Nat) (x1 : Nat) (x2 : Int32) (x4 : Int64) (x6 : Int64) (x8 : Int32) (H : Heap) (locs : List Loc), hK h x0 = 5 → hK h x1 = 3 → Km h0 h → Wx X h H → va_S (aA (eB X)) s.heap H locs → ∀ (ls : Array Slot), lv_has ls 19 [(0, .ref x0), (1, .ref x1), (2, .int x2), (4, .long x4), (6, .long x6), (8, .int x8)] → k_26 h x0 x1 x2 x4 x6 x8 = some o → W p l e (rm 0 0) s m args below meth c H locs 0 0 (MQ below (QI X h0 o.1 o.2) args s 0 0 (aA (eB X))) (F0 m 26 ls [])) (hk_133 : ∀ (h : Hp) (x0 : Nat) (x1 : Nat) (x2 : Int32) (x4 : Int64) (x6 : Int64) (x8 : Int32) (x13 : Int32) (x14 : Int32) (H : Heap) (locs : List Loc), hK h x0 = 5 → hK h x1 = 3 → Km h0 h → Wx X h H → va_S (aA (eB X)) s.heap H locs → ∀ (ls : Array Slot), lv_has ls 19 [(0, .ref x0), (1, .ref x1), (2, .int x2), (4, .long x4), (6, .long x6), (8, .int x8), (13, .int x13), (14, .int x14)] → k_133 h x0 x1 x2 x4 x6 x8 x13 x14 = some o → W p l e (rm 0 0) s m args below meth c H locs 0 0 (MQ below (QI X h0 o.1 o.2) args s 0 0 (aA (eB X))) (F0 m 133 ls [])) {h : Hp} {x0 : Nat} {x1 : Nat} {x2 : Int32} {x4 : Int64} {x6 : Int64} {x8 : Int32} {x13 : Int32} {x14 : Int32} {x15 : Int32} {t0 : Int32} {H : Heap} {locs : List Loc} (k_x0 : hK h x0 = 5) (k_x1 : hK h x1 = 3) (hkm : Km h0 h) (hW : Wx X h H) (hZ : va_S (aA (eB X)) s.heap H locs) (ls : Array Slot) (hl : lv_has ls 19 [(0, .ref x0), (1, .ref x1), (2, .int x2), (4, .long x4), (6, .long x6), (8, .int x8), (13, .int x13), (14, .int x14), (15, .int x15)]) (hE : sX5_isHit_227 F k_26 k_133 h x0 x1 x2 x4 x6 x8 x13 x14 x15 t0 = some o) : W p l e (rm 0 0) s m args below meth c H locs 0 0 (MQ below (QI X h0 o.1 o.2) args s 0 0 (aA (eB X))) (F0 m 227 ls [.int t0]) := by
  refine lv_istore (lv' := [(18, .int t0), (0, .ref x0), (1, .ref x1), (2, .int x2), (4, .long x4), (6, .long x6), (8, .int x8), (13, .int x13), (14, .int x14), (15, .int x15)]) C.1 C.2.1 dX5_isHit_227 hl (by decide) rfl (fun ls hl => ?_)
  refine lv_iload C.1 C.2.1 dX5_isHit_229 (lv_at hl 0 rfl) ?_
  refine lv_if_eq (tgt := 243) C.1 C.2.1 dX5_isHit_231 (by decide) (fun c_1 => ?_) (fun c_1 => ?_)
  · have hE := br_p hE c_1
    exact bX5_isHit_243 C hk_26 hk_133 k_x0 k_x1 hkm hW hZ _ (lv_sub hl [1, 2, 3, 4, 5, 6, 7, 8] rfl) hE
  · have hE := br_n hE c_1
    refine lv_iload C.1 C.2.1 dX5_isHit_234 (lv_at hl 9 rfl) ?_
    refine lv_iconst (v := (1 : Int32)) C.1 C.2.1 dX5_isHit_236 (by decide) ?_
    refine lv_iand C.1 C.2.1 dX5_isHit_237 ?_
    refine lv_if_ne (tgt := 243) C.1 C.2.1 dX5_isHit_238 (by decide) (fun c_2 => ?_) (fun c_2 => ?_)
    · have hE := br_n hE c_2
      exact bX5_isHit_243 C hk_26 hk_133 k_x0 k_x1 hkm hW hZ _ (lv_sub hl [1, 2, 3, 4, 5, 6, 7, 8] rfl) hE
    · have hE := br_p hE c_2
      refine lv_iconst (v := (1 : Int32)) C.1 C.2.1 dX5_isHit_241 (by decide) ?_
      exact x_iret C rfl (by decide) hW hZ hkm hE dX5_isHit_242
set_option maxRecDepth 20000 in
theorem bX5_isHit_226 {p : Program} {l : Launch} {e : Env} {s : State} {m : MethodId} {args : Array Value} {below : List Frame} {meth : Method} {c : Code} {X : Ec} {h0 : Hp} {o : Int32 × Hp} {k_26 : Hp → Nat → Nat → Int32 → Int64 → Int64 → Int32 → Option (Int32 × Hp)} {k_133 : Hp → Nat → Nat → Int32 → Int64 → Int64 → Int32 → Int32 → Int32 → Option (Int32 × Hp)} {F : Nat} (C : Cx X p s m args meth c RX5 cX5_isHit 19 (some .boolean) "isHit") (hk_26 : ∀ (h : Hp) (x0 : Nat) (x1 : Nat) (x2 : Int32) (x4 : Int64) (x6 : Int64) (x8 : Int32) (H : Heap) (locs : List Loc), hK h x0 = 5 → hK h x1 = 3 → Km h0 h → Wx X h H → va_S (aA (eB X)) s.heap H locs → ∀ (ls : Array Slot), lv_has ls 19 [(0, .ref x0), (1, .ref x1), (2, .int x2), (4, .long x4), (6, .long x6), (8, .int x8)] → k_26 h x0 x1 x2 x4 x6 x8 = some o → W p l e (rm 0 0) s m args below meth c H locs 0 0 (MQ below (QI X h0 o.1 o.2) args s 0 0 (aA (eB X))) (F0 m 26 ls [])) (hk_133 : ∀ (h : Hp) (x0 : Nat) (x1 : Nat) (x2 : Int32) (x4 : Int64) (x6 : Int64) (x8 : Int32) (x13 : Int32) (x14 : Int32) (H : Heap) (locs : List Loc), hK h x0 = 5 → hK h x1 = 3 → Km h0 h → Wx X h H → va_S (aA (eB X)) s.heap H locs → ∀ (ls : Array Slot), lv_has ls 19 [(0, .ref x0), (1, .ref x1), (2, .int x2), (4, .long x4), (6, .long x6), (8, .int x8), (13, .int x13), (14, .int x14)] → k_133 h x0 x1 x2 x4 x6 x8 x13 x14 = some o → W p l e (rm 0 0) s m args below meth c H locs 0 0 (MQ below (QI X h0 o.1 o.2) args s 0 0 (aA (eB X))) (F0 m 133 ls [])) {h : Hp} {x0 : Nat} {x1 : Nat} {x2 : Int32} {x4 : Int64} {x6 : Int64} {x8 : Int32} {x13 : Int32} {x14 : Int32} {x15 : Int32} {H : Heap} {locs : List Loc} (k_x0 : hK h x0 = 5) (k_x1 : hK h x1 = 3) (hkm : Km h0 h) (hW : Wx X h H) (hZ : va_S (aA (eB X)) s.heap H locs) (ls : Array Slot) (hl : lv_has ls 19 [(0, .ref x0), (1, .ref x1), (2, .int x2), (4, .long x4), (6, .long x6), (8, .int x8), (13, .int x13), (14, .int x14), (15, .int x15)]) (hE : sX5_isHit_226 F k_26 k_133 h x0 x1 x2 x4 x6 x8 x13 x14 x15 = some o) : W p l e (rm 0 0) s m args below meth c H locs 0 0 (MQ below (QI X h0 o.1 o.2) args s 0 0 (aA (eB X))) (F0 m 226 ls []) := by
  refine lv_iconst (v := (0 : Int32)) C.1 C.2.1 dX5_isHit_226 (by decide) ?_
  exact bX5_isHit_227 C hk_26 hk_133 k_x0 k_x1 hkm hW hZ _ (lv_sub hl [0, 1, 2, 3, 4, 5, 6, 7, 8] rfl) hE
set_option maxRecDepth 20000 in
theorem bX5_isHit_133 {p : Program} {l : Launch} {e : Env} {s : State} {m : MethodId} {args : Array Value} {below : List Frame} {meth : Method} {c : Code} {X : Ec} {h0 : Hp} {o : Int32 × Hp} {k_26 : Hp → Nat → Nat → Int32 → Int64 → Int64 → Int32 → Option (Int32 × Hp)} {F : Nat} (C : Cx X p s m args meth c RX5 cX5_isHit 19 (some .boolean) "isHit") (hk_26 : ∀ (h : Hp) (x0 : Nat) (x1 : Nat) (x2 : Int32) (x4 : Int64) (x6 : Int64) (x8 : Int32) (H : Heap) (locs : List Loc), hK h x0 = 5 → hK h x1 = 3 → Km h0 h → Wx X h H → va_S (aA (eB X)) s.heap H locs → ∀ (ls : Array Slot), lv_has ls 19 [(0, .ref x0), (1, .ref x1), (2, .int x2), (4, .long x4), (6, .long x6), (8, .int x8)] → k_26 h x0 x1 x2 x4 x6 x8 = some o → W p l e (rm 0 0) s m args below meth c H locs 0 0 (MQ below (QI X h0 o.1 o.2) args s 0 0 (aA (eB X))) (F0 m 26 ls [])) : ∀ (f : Nat) {h : Hp} {x0 : Nat} {x1 : Nat} {x2 : Int32} {x4 : Int64} {x6 : Int64} {x8 : Int32} {x13 : Int32} {x14 : Int32} {H : Heap} {locs : List Loc} (k_x0 : hK h x0 = 5) (k_x1 : hK h x1 = 3), Km h0 h → Wx X h H → va_S (aA (eB X)) s.heap H locs → ∀ (ls : Array Slot), lv_has ls 19 [(0, .ref x0), (1, .ref x1), (2, .int x2), (4, .long x4), (6, .long x6), (8, .int x8), (13, .int x13), (14, .int x14)] → sX5_isHit_133 F k_26 f h x0 x1 x2 x4 x6 x8 x13 x14 = some o → W p l e (rm 0 0) s m args below meth c H locs 0 0 (MQ below (QI X h0 o.1 o.2) args s 0 0 (aA (eB X))) (F0 m 133 ls []) := by
  intro f
  induction f with
  | zero =>
    intro h x0 x1 x2 x4 x6 x8 x13 x14 H locs k_x0 k_x1 hkm hW hZ ls hl hE
    rw [sX5_isHit_133] at hE
    cases hE
  | succ f ih =>
    intro h x0 x1 x2 x4 x6 x8 x13 x14 H locs k_x0 k_x1 hkm hW hZ ls hl hE
    rw [sX5_isHit_133] at hE
    have hk_133 : ∀ (h : Hp) (x0 : Nat) (x1 : Nat) (x2 : Int32) (x4 : Int64) (x6 : Int64) (x8 : Int32) (x13 : Int32) (x14 : Int32) (H : Heap) (locs : List Loc), hK h x0 = 5 → hK h x1 = 3 → Km h0 h → Wx X h H → va_S (aA (eB X)) s.heap H locs → ∀ (ls : Array Slot), lv_has ls 19 [(0, .ref x0), (1, .ref x1), (2, .int x2), (4, .long x4), (6, .long x6), (8, .int x8), (13, .int x13), (14, .int x14)] → sX5_isHit_133 F k_26 f h x0 x1 x2 x4 x6 x8 x13 x14 = some o → W p l e (rm 0 0) s m args below meth c H locs 0 0 (MQ below (QI X h0 o.1 o.2) args s 0 0 (aA (eB X))) (F0 m 133 ls []) := fun h x0 x1 x2 x4 x6 x8 x13 x14 H locs k_x0 k_x1 a b c ls hl hE => ih k_x0 k_x1 a b c ls hl hE
    refine lv_iload C.1 C.2.1 dX5_isHit_133 (lv_at hl 7 rfl) ?_
    refine lv_aload_n C.1 C.2.1 dX5_isHit_135 rfl (lv_at hl 0 rfl) ?_
    obtain ⟨r_1, er_1, hE⟩ := cl_e hE
    refine gf_X5_26 C hW k_x0 er_1 dX5_isHit_136 (fun k_r_1 => ?_)
    obtain ⟨r_2, er_2, hE⟩ := cl_e hE
    refine gf_X5_51 C hW k_r_1 er_2 dX5_isHit_139 (fun k_r_2 => ?_)
    refine lv_iload C.1 C.2.1 dX5_isHit_142 (lv_at hl 6 rfl) ?_
    refine lv_iconst (v := (1 : Int32)) C.1 C.2.1 dX5_isHit_144 (by decide) ?_
    refine lv_iadd C.1 C.2.1 dX5_isHit_145 ?_
    obtain ⟨g_3, hE⟩ := gd_e hE
    refine y_iald C hW k_r_2 g_3 dX5_isHit_146 ?_
    refine lv_icmp_ge (tgt := 249) C.1 C.2.1 dX5_isHit_147 (by decide) (fun c_4 => ?_) (fun c_4 => ?_)
    · have hE := br_p hE c_4
      exact bX5_isHit_249 C hk_26 k_x0 k_x1 hkm hW hZ _ (lv_sub hl [0, 1, 2, 3, 4, 5] rfl) hE
    · have hE := br_n hE c_4
      refine lv_aload_n C.1 C.2.1 dX5_isHit_150 rfl (lv_at hl 0 rfl) ?_
      obtain ⟨r_5, er_5, hE⟩ := cl_e hE
      refine gf_X5_26 C hW k_x0 er_5 dX5_isHit_151 (fun k_r_5 => ?_)
      obtain ⟨r_6, er_6, hE⟩ := cl_e hE
      refine gf_X5_54 C hW k_r_5 er_6 dX5_isHit_154 (fun k_r_6 => ?_)
      refine lv_iload C.1 C.2.1 dX5_isHit_157 (lv_at hl 7 rfl) ?_
      obtain ⟨g_7, hE⟩ := gd_e hE
      refine y_iald C hW k_r_6 g_7 dX5_isHit_159 ?_
      refine lv_bipush (v := (6 : Int32)) C.1 C.2.1 dX5_isHit_160 (by decide) ?_
      refine lv_ishr C.1 C.2.1 dX5_isHit_162 ?_
      obtain ⟨v_8, ev_8, hE⟩ := nm_e2 hE
      refine x_nmI ev_8 ?_
      refine lv_istore (lv' := [(15, .int v_8), (0, .ref x0), (1, .ref x1), (2, .int x2), (4, .long x4), (6, .long x6), (8, .int x8), (13, .int x13), (14, .int x14)]) C.1 C.2.1 dX5_isHit_163 hl (by decide) rfl (fun ls hl => ?_)
      refine lv_aload_n C.1 C.2.1 dX5_isHit_165 rfl (lv_at hl 1 rfl) ?_
      obtain ⟨r_9, er_9, hE⟩ := cl_e hE
      refine gf_X5_26 C hW k_x0 er_9 dX5_isHit_166 (fun k_r_9 => ?_)
      obtain ⟨r_10, er_10, hE⟩ := cl_e hE
      refine gf_X5_57 C hW k_r_9 er_10 dX5_isHit_169 (fun k_r_10 => ?_)
      refine lv_iload C.1 C.2.1 dX5_isHit_172 (lv_at hl 8 rfl) ?_
      obtain ⟨g_11, hE⟩ := gd_e hE
      refine y_lald C hW k_r_10 g_11 dX5_isHit_174 ?_
      refine lv_lload C.1 C.2.1 dX5_isHit_175 (lv_at hl 4 rfl) ?_
      refine lv_land C.1 C.2.1 dX5_isHit_177 ?_
      obtain ⟨v_12, ev_12, hE⟩ := nm_e2 hE
      refine x_nmJ ev_12 ?_
      refine lv_lstore (lv' := [(16, .long v_12), (15, .int v_8), (0, .ref x0), (1, .ref x1), (2, .int x2), (4, .long x4), (6, .long x6), (8, .int x8), (13, .int x13), (14, .int x14)]) C.1 C.2.1 dX5_isHit_178 hl (by decide) rfl (fun ls hl => ?_)
      refine lv_iload C.1 C.2.1 dX5_isHit_180 (lv_at hl 1 rfl) ?_
      refine lv_bipush (v := (8 : Int32)) C.1 C.2.1 dX5_isHit_182 (by decide) ?_
      refine lv_iand C.1 C.2.1 dX5_isHit_184 ?_
      refine lv_if_ne (tgt := 203) C.1 C.2.1 dX5_isHit_185 (by decide) (fun c_13 => ?_) (fun c_13 => ?_)
      · have hE := br_n hE c_13
        refine lv_lload C.1 C.2.1 dX5_isHit_203 (lv_at hl 0 rfl) ?_
        refine lv_lconst (v := (0 : Int64)) C.1 C.2.1 dX5_isHit_205 (by decide) ?_
        refine W.lcmp C.1 C.2.1 dX5_isHit_206 ?_
        refine lv_if_eq (tgt := 226) C.1 C.2.1 dX5_isHit_207 (by decide) (fun c_14 => ?_) (fun c_14 => ?_)
        · have hE := br_p hE c_14
          exact bX5_isHit_226 C hk_26 hk_133 k_x0 k_x1 hkm hW hZ _ (lv_sub hl [2, 3, 4, 5, 6, 7, 8, 9, 1] rfl) hE
        · have hE := br_n hE c_14
          refine lv_lload C.1 C.2.1 dX5_isHit_210 (lv_at hl 0 rfl) ?_
          refine lv_lload C.1 C.2.1 dX5_isHit_212 (lv_at hl 0 rfl) ?_
          refine lv_lconst (v := (1 : Int64)) C.1 C.2.1 dX5_isHit_214 (by decide) ?_
          refine lv_lsub C.1 C.2.1 dX5_isHit_215 ?_
          refine lv_land C.1 C.2.1 dX5_isHit_216 ?_
          refine lv_lconst (v := (0 : Int64)) C.1 C.2.1 dX5_isHit_217 (by decide) ?_
          refine W.lcmp C.1 C.2.1 dX5_isHit_218 ?_
          refine lv_if_ne (tgt := 226) C.1 C.2.1 dX5_isHit_219 (by decide) (fun c_15 => ?_) (fun c_15 => ?_)
          · have hE := br_n hE c_15
            exact bX5_isHit_226 C hk_26 hk_133 k_x0 k_x1 hkm hW hZ _ (lv_sub hl [2, 3, 4, 5, 6, 7, 8, 9, 1] rfl) hE
          · have hE := br_p hE c_15
            refine lv_iconst (v := (1 : Int32)) C.1 C.2.1 dX5_isHit_222 (by decide) ?_
            refine lv_goto (tgt := 227) C.1 C.2.1 dX5_isHit_223 (by decide) ?_
            exact bX5_isHit_227 C hk_26 hk_133 k_x0 k_x1 hkm hW hZ _ (lv_sub hl [2, 3, 4, 5, 6, 7, 8, 9, 1] rfl) hE
      · have hE := br_p hE c_13
        refine lv_lload C.1 C.2.1 dX5_isHit_188 (lv_at hl 0 rfl) ?_
        refine lv_lconst (v := (0 : Int64)) C.1 C.2.1 dX5_isHit_190 (by decide) ?_
        refine W.lcmp C.1 C.2.1 dX5_isHit_191 ?_
        refine lv_if_ne (tgt := 199) C.1 C.2.1 dX5_isHit_192 (by decide) (fun c_16 => ?_) (fun c_16 => ?_)
        · have hE := br_n hE c_16
          refine lv_iconst (v := (0 : Int32)) C.1 C.2.1 dX5_isHit_199 (by decide) ?_
          refine lv_goto (tgt := 227) C.1 C.2.1 dX5_isHit_200 (by decide) ?_
          exact bX5_isHit_227 C hk_26 hk_133 k_x0 k_x1 hkm hW hZ _ (lv_sub hl [2, 3, 4, 5, 6, 7, 8, 9, 1] rfl) hE
        · have hE := br_p hE c_16
          refine lv_iconst (v := (1 : Int32)) C.1 C.2.1 dX5_isHit_195 (by decide) ?_
          refine lv_goto (tgt := 227) C.1 C.2.1 dX5_isHit_196 (by decide) ?_
          exact bX5_isHit_227 C hk_26 hk_133 k_x0 k_x1 hkm hW hZ _ (lv_sub hl [2, 3, 4, 5, 6, 7, 8, 9, 1] rfl) hE
set_option maxRecDepth 20000 in
theorem bX5_isHit_26 {p : Program} {l : Launch} {e : Env} {s : State} {m : MethodId} {args : Array Value} {below : List Frame} {meth : Method} {c : Code} {X : Ec} {h0 : Hp} {o : Int32 × Hp} {F : Nat} (C : Cx X p s m args meth c RX5 cX5_isHit 19 (some .boolean) "isHit") : ∀ (f : Nat) {h : Hp} {x0 : Nat} {x1 : Nat} {x2 : Int32} {x4 : Int64} {x6 : Int64} {x8 : Int32} {H : Heap} {locs : List Loc} (k_x0 : hK h x0 = 5) (k_x1 : hK h x1 = 3), Km h0 h → Wx X h H → va_S (aA (eB X)) s.heap H locs → ∀ (ls : Array Slot), lv_has ls 19 [(0, .ref x0), (1, .ref x1), (2, .int x2), (4, .long x4), (6, .long x6), (8, .int x8)] → sX5_isHit_26 F f h x0 x1 x2 x4 x6 x8 = some o → W p l e (rm 0 0) s m args below meth c H locs 0 0 (MQ below (QI X h0 o.1 o.2) args s 0 0 (aA (eB X))) (F0 m 26 ls []) := by
  intro f
  induction f with
  | zero =>
    intro h x0 x1 x2 x4 x6 x8 H locs k_x0 k_x1 hkm hW hZ ls hl hE
    rw [sX5_isHit_26] at hE
    cases hE
  | succ f ih =>
    intro h x0 x1 x2 x4 x6 x8 H locs k_x0 k_x1 hkm hW hZ ls hl hE
    rw [sX5_isHit_26] at hE
    have hk_26 : ∀ (h : Hp) (x0 : Nat) (x1 : Nat) (x2 : Int32) (x4 : Int64) (x6 : Int64) (x8 : Int32) (H : Heap) (locs : List Loc), hK h x0 = 5 → hK h x1 = 3 → Km h0 h → Wx X h H → va_S (aA (eB X)) s.heap H locs → ∀ (ls : Array Slot), lv_has ls 19 [(0, .ref x0), (1, .ref x1), (2, .int x2), (4, .long x4), (6, .long x6), (8, .int x8)] → sX5_isHit_26 F f h x0 x1 x2 x4 x6 x8 = some o → W p l e (rm 0 0) s m args below meth c H locs 0 0 (MQ below (QI X h0 o.1 o.2) args s 0 0 (aA (eB X))) (F0 m 26 ls []) := fun h x0 x1 x2 x4 x6 x8 H locs k_x0 k_x1 a b c ls hl hE => ih k_x0 k_x1 a b c ls hl hE
    refine lv_iload C.1 C.2.1 dX5_isHit_26 (lv_at hl 5 rfl) ?_
    refine lv_bipush (v := (64 : Int32)) C.1 C.2.1 dX5_isHit_28 (by decide) ?_
    refine lv_icmp_ge (tgt := 255) C.1 C.2.1 dX5_isHit_30 (by decide) (fun c_1 => ?_) (fun c_1 => ?_)
    · have hE := br_p hE c_1
      exact bX5_isHit_255 C hkm hW hZ _ (lv_sub hl [] rfl) hE
    · have hE := br_n hE c_1
      refine lv_lload C.1 C.2.1 dX5_isHit_33 (lv_at hl 4 rfl) ?_
      refine lv_lconst (v := (0 : Int64)) C.1 C.2.1 dX5_isHit_35 (by decide) ?_
      refine W.lcmp C.1 C.2.1 dX5_isHit_36 ?_
      refine lv_if_eq (tgt := 255) C.1 C.2.1 dX5_isHit_37 (by decide) (fun c_2 => ?_) (fun c_2 => ?_)
      · have hE := br_p hE c_2
        exact bX5_isHit_255 C hkm hW hZ _ (lv_sub hl [] rfl) hE
      · have hE := br_n hE c_2
        refine lv_lload C.1 C.2.1 dX5_isHit_40 (lv_at hl 4 rfl) ?_
        refine lv_lload C.1 C.2.1 dX5_isHit_42 (lv_at hl 4 rfl) ?_
        refine lv_lneg C.1 C.2.1 dX5_isHit_44 ?_
        refine lv_land C.1 C.2.1 dX5_isHit_45 ?_
        obtain ⟨v_3, ev_3, hE⟩ := nm_e2 hE
        refine x_nmJ ev_3 ?_
        refine lv_lstore (lv' := [(9, .long v_3), (0, .ref x0), (1, .ref x1), (2, .int x2), (4, .long x4), (6, .long x6), (8, .int x8)]) C.1 C.2.1 dX5_isHit_46 hl (by decide) rfl (fun ls hl => ?_)
        refine lv_lload C.1 C.2.1 dX5_isHit_48 (lv_at hl 5 rfl) ?_
        refine lv_lload C.1 C.2.1 dX5_isHit_50 (lv_at hl 0 rfl) ?_
        refine lv_lxor C.1 C.2.1 dX5_isHit_52 ?_
        obtain ⟨v_4, ev_4, hE⟩ := nm_e2 hE
        refine x_nmJ ev_4 ?_
        refine lv_lstore (lv' := [(6, .long v_4), (9, .long v_3), (0, .ref x0), (1, .ref x1), (2, .int x2), (4, .long x4), (8, .int x8)]) C.1 C.2.1 dX5_isHit_53 hl (by decide) rfl (fun ls hl => ?_)
        refine y_sqN C hZ n_1074 dX5_isHit_55 ?_
        refine lv_lload C.1 C.2.1 dX5_isHit_58 (lv_at hl 1 rfl) ?_
        refine lv_ldc2 (v := (285870213051386505 : Int64)) C.1 C.2.1 C.2.2.2.1 (C.2.2.2.2.1 _ m_1075) dX5_isHit_60 ?_
        refine lv_lmul C.1 C.2.1 dX5_isHit_63 ?_
        refine lv_bipush (v := (58 : Int32)) C.1 C.2.1 dX5_isHit_64 (by decide) ?_
        refine lv_lushr C.1 C.2.1 dX5_isHit_66 rfl ?_
        refine lv_l2i C.1 C.2.1 dX5_isHit_67 rfl ?_
        obtain ⟨g_5, hE⟩ := gd_e hE
        refine y_sqld C hZ g_5 dX5_isHit_68 ?_
        obtain ⟨v_6, ev_6, hE⟩ := nm_e2 hE
        refine x_nmI ev_6 ?_
        refine lv_istore (lv' := [(11, .int v_6), (6, .long v_4), (9, .long v_3), (0, .ref x0), (1, .ref x1), (2, .int x2), (4, .long x4), (8, .int x8)]) C.1 C.2.1 dX5_isHit_69 hl (by decide) rfl (fun ls hl => ?_)
        refine lv_aload_n C.1 C.2.1 dX5_isHit_71 rfl (lv_at hl 4 rfl) ?_
        obtain ⟨r_7, er_7, hE⟩ := cl_e hE
        refine gf_X5_42 C hW k_x1 er_7 dX5_isHit_72 (fun k_r_7 => ?_)
        refine lv_iload C.1 C.2.1 dX5_isHit_75 (lv_at hl 0 rfl) ?_
        obtain ⟨g_8, hE⟩ := gd_e hE
        refine y_bald C hW k_r_7 g_8 dX5_isHit_77 ?_
        obtain ⟨v_9, ev_9, hE⟩ := nm_e2 hE
        refine x_nmI ev_9 ?_
        refine lv_istore (lv' := [(12, .int v_9), (11, .int v_6), (6, .long v_4), (9, .long v_3), (0, .ref x0), (1, .ref x1), (2, .int x2), (4, .long x4), (8, .int x8)]) C.1 C.2.1 dX5_isHit_78 hl (by decide) rfl (fun ls hl => ?_)
        refine lv_aload_n C.1 C.2.1 dX5_isHit_80 rfl (lv_at hl 4 rfl) ?_
        obtain ⟨r_10, er_10, hE⟩ := cl_e hE
        refine gf_X5_26 C hW k_x0 er_10 dX5_isHit_81 (fun k_r_10 => ?_)
        obtain ⟨r_11, er_11, hE⟩ := cl_e hE
        refine gf_X5_46 C hW k_r_10 er_11 dX5_isHit_84 (fun k_r_11 => ?_)
        refine lv_iload C.1 C.2.1 dX5_isHit_87 (lv_at hl 0 rfl) ?_
        refine lv_bipush (v := (64 : Int32)) C.1 C.2.1 dX5_isHit_89 (by decide) ?_
        refine lv_imul C.1 C.2.1 dX5_isHit_91 ?_
        refine lv_iload_n C.1 C.2.1 dX5_isHit_92 rfl (lv_at hl 6 rfl) ?_
        refine lv_iadd C.1 C.2.1 dX5_isHit_93 ?_
        obtain ⟨g_12, hE⟩ := gd_e hE
        refine y_lald C hW k_r_11 g_12 dX5_isHit_94 ?_
        refine lv_lload C.1 C.2.1 dX5_isHit_95 (lv_at hl 3 rfl) ?_
        refine lv_land C.1 C.2.1 dX5_isHit_97 ?_
        refine lv_lconst (v := (0 : Int64)) C.1 C.2.1 dX5_isHit_98 (by decide) ?_
        refine W.lcmp C.1 C.2.1 dX5_isHit_99 ?_
        refine lv_if_ne (tgt := 106) C.1 C.2.1 dX5_isHit_100 (by decide) (fun c_13 => ?_) (fun c_13 => ?_)
        · have hE := br_n hE c_13
          refine lv_iload C.1 C.2.1 dX5_isHit_106 (lv_at hl 0 rfl) ?_
          refine lv_bipush (v := (64 : Int32)) C.1 C.2.1 dX5_isHit_108 (by decide) ?_
          refine lv_imul C.1 C.2.1 dX5_isHit_110 ?_
          refine lv_iload C.1 C.2.1 dX5_isHit_111 (lv_at hl 1 rfl) ?_
          refine lv_iadd C.1 C.2.1 dX5_isHit_113 ?_
          refine lv_bipush (v := (64 : Int32)) C.1 C.2.1 dX5_isHit_114 (by decide) ?_
          refine lv_imul C.1 C.2.1 dX5_isHit_116 ?_
          refine lv_iload_n C.1 C.2.1 dX5_isHit_117 rfl (lv_at hl 6 rfl) ?_
          refine lv_iadd C.1 C.2.1 dX5_isHit_118 ?_
          obtain ⟨v_14, ev_14, hE⟩ := nm_e2 hE
          refine x_nmI ev_14 ?_
          refine lv_istore (lv' := [(13, .int v_14), (12, .int v_9), (11, .int v_6), (6, .long v_4), (9, .long v_3), (0, .ref x0), (1, .ref x1), (2, .int x2), (4, .long x4), (8, .int x8)]) C.1 C.2.1 dX5_isHit_119 hl (by decide) rfl (fun ls hl => ?_)
          refine lv_aload_n C.1 C.2.1 dX5_isHit_121 rfl (lv_at hl 5 rfl) ?_
          obtain ⟨r_15, er_15, hE⟩ := cl_e hE
          refine gf_X5_26 C hW k_x0 er_15 dX5_isHit_122 (fun k_r_15 => ?_)
          obtain ⟨r_16, er_16, hE⟩ := cl_e hE
          refine gf_X5_51 C hW k_r_15 er_16 dX5_isHit_125 (fun k_r_16 => ?_)
          refine lv_iload C.1 C.2.1 dX5_isHit_128 (lv_at hl 0 rfl) ?_
          obtain ⟨g_17, hE⟩ := gd_e hE
          refine y_iald C hW k_r_16 g_17 dX5_isHit_130 ?_
          obtain ⟨v_18, ev_18, hE⟩ := nm_e2 hE
          refine x_nmI ev_18 ?_
          refine lv_istore (lv' := [(14, .int v_18), (13, .int v_14), (12, .int v_9), (11, .int v_6), (6, .long v_4), (9, .long v_3), (0, .ref x0), (1, .ref x1), (2, .int x2), (4, .long x4), (8, .int x8)]) C.1 C.2.1 dX5_isHit_131 hl (by decide) rfl (fun ls hl => ?_)
          exact bX5_isHit_133 C hk_26 F k_x0 k_x1 hkm hW hZ _ (lv_sub hl [6, 7, 8, 9, 4, 10, 1, 0] rfl) hE
        · have hE := br_p hE c_13
          refine lv_goto (tgt := 249) C.1 C.2.1 dX5_isHit_103 (by decide) ?_
          exact bX5_isHit_249 C hk_26 k_x0 k_x1 hkm hW hZ _ (lv_sub hl [4, 5, 6, 7, 2, 8] rfl) hE
set_option maxRecDepth 20000 in
theorem ct_X5_isHit (l : Launch) (X : Ec) (F : Nat) {h : Hp} {x0 : Nat} {x1 : Nat} {x2 : Int32} {x3 : Int32} {o : Int32 × Hp} (k_x0 : hK h x0 = 5) (k_x1 : hK h x1 = 3) (hE : sX5_isHit F h x0 x1 x2 x3 = some o) : MetI l yX5_isHit cX5_isHit 19 (some .boolean) 0 0 X [.ref x0, .ref x1, .int x2, .int x3] h o := by
  refine x_met (by decide) (Nat.le_of_ble_eq_true rfl) ?_
  intro p e s m below meth c ls C hl hW hZ
  have hl : lv_has ls 19 [(0, .ref x0), (1, .ref x1), (2, .int x2), (3, .int x3)] := hl
  have hkm : Km h h := Km.rf h
  refine lv_aload_n C.1 C.2.1 dX5_isHit_0 rfl (lv_at hl 1 rfl) ?_
  obtain ⟨r_1, er_1, hE⟩ := cl_e hE
  refine gf_X5_33 C hW k_x1 er_1 dX5_isHit_1 (fun k_r_1 => ?_)
  refine lv_iconst (v := (0 : Int32)) C.1 C.2.1 dX5_isHit_4 (by decide) ?_
  obtain ⟨g_2, hE⟩ := gd_e hE
  refine y_lald C hW k_r_1 g_2 dX5_isHit_5 ?_
  refine lv_aload_n C.1 C.2.1 dX5_isHit_6 rfl (lv_at hl 1 rfl) ?_
  obtain ⟨r_3, er_3, hE⟩ := cl_e hE
  refine gf_X5_33 C hW k_x1 er_3 dX5_isHit_7 (fun k_r_3 => ?_)
  refine lv_iconst (v := (1 : Int32)) C.1 C.2.1 dX5_isHit_10 (by decide) ?_
  obtain ⟨g_4, hE⟩ := gd_e hE
  refine y_lald C hW k_r_3 g_4 dX5_isHit_11 ?_
  refine lv_lor C.1 C.2.1 dX5_isHit_12 ?_
  obtain ⟨v_5, ev_5, hE⟩ := nm_e2 hE
  refine x_nmJ ev_5 ?_
  refine lv_lstore (lv' := [(4, .long v_5), (0, .ref x0), (1, .ref x1), (2, .int x2), (3, .int x3)]) C.1 C.2.1 dX5_isHit_13 hl (by decide) rfl (fun ls hl => ?_)
  refine lv_aload_n C.1 C.2.1 dX5_isHit_15 rfl (lv_at hl 2 rfl) ?_
  obtain ⟨r_6, er_6, hE⟩ := cl_e hE
  refine gf_X5_33 C hW k_x1 er_6 dX5_isHit_16 (fun k_r_6 => ?_)
  refine lv_iload_n C.1 C.2.1 dX5_isHit_19 rfl (lv_at hl 4 rfl) ?_
  obtain ⟨g_7, hE⟩ := gd_e hE
  refine y_lald C hW k_r_6 g_7 dX5_isHit_20 ?_
  obtain ⟨v_8, ev_8, hE⟩ := nm_e2 hE
  refine x_nmJ ev_8 ?_
  refine lv_lstore (lv' := [(6, .long v_8), (4, .long v_5), (0, .ref x0), (1, .ref x1), (2, .int x2), (3, .int x3)]) C.1 C.2.1 dX5_isHit_21 hl (by decide) rfl (fun ls hl => ?_)
  refine lv_iconst (v := (0 : Int32)) C.1 C.2.1 dX5_isHit_23 (by decide) ?_
  refine lv_istore (lv' := [(8, .int (0 : Int32)), (6, .long v_8), (4, .long v_5), (0, .ref x0), (1, .ref x1), (2, .int x2), (3, .int x3)]) C.1 C.2.1 dX5_isHit_24 hl (by decide) rfl (fun ls hl => ?_)
  exact bX5_isHit_26 C F k_x0 k_x1 hkm hW hZ _ (lv_sub hl [3, 4, 5, 2, 1, 0] rfl) hE
set_option maxRecDepth 100000 in
theorem m_1070 : Cond.methodLink RX5 63 yX5_isHit ∈ W0 := w0_in (List.mem_append_right _ (List.mem_of_getElem? (i := 1070) rfl)) rfl
set_option maxRecDepth 100000 in
theorem m_1071 : Cond.instanceMethod yX5_isHit ∈ W0 := w0_in (List.mem_append_right _ (List.mem_of_getElem? (i := 1071) rfl)) rfl
set_option maxRecDepth 100000 in
theorem m_1072 : Cond.selects RX5 yX5_isHit yX5_isHit ∈ W0 := w0_in (List.mem_append_right _ (List.mem_of_getElem? (i := 1072) rfl)) rfl
set_option maxRecDepth 100000 in
theorem m_1073 : Cond.code yX5_isHit cX5_isHit 19 (some .boolean) ∈ W0 := w0_in (List.mem_append_right _ (List.mem_of_getElem? (i := 1073) rfl)) rfl
theorem cw_X5_63 : cwd RX5 63 yX5_isHit cX5_isHit 19 (some .boolean) false 3 := ⟨m_1073, m_1070, m_7, ⟨m_1071, m_1072⟩, by decide, by decide, by decide +kernel⟩
theorem dX5_isRoyalHit_0 : decode cX5_isRoyalHit 0 = .ok (.aload_n 1, 1) := by decide +kernel
theorem dX5_isRoyalHit_1 : decode cX5_isRoyalHit 1 = .ok (.getfield 60, 3) := by decide +kernel
theorem dX5_isRoyalHit_4 : decode cX5_isRoyalHit 4 = .ok (.iload_n 2, 1) := by decide +kernel
theorem dX5_isRoyalHit_5 : decode cX5_isRoyalHit 5 = .ok (.iaload, 1) := by decide +kernel
theorem dX5_isRoyalHit_6 : decode cX5_isRoyalHit 6 = .ok (.iconst (-1), 1) := by decide +kernel
theorem dX5_isRoyalHit_7 : decode cX5_isRoyalHit 7 = .ok (.if_icmp .eq 24, 3) := by decide +kernel
theorem dX5_isRoyalHit_10 : decode cX5_isRoyalHit 10 = .ok (.aload_n 0, 1) := by decide +kernel
theorem dX5_isRoyalHit_11 : decode cX5_isRoyalHit 11 = .ok (.aload_n 1, 1) := by decide +kernel
theorem dX5_isRoyalHit_12 : decode cX5_isRoyalHit 12 = .ok (.aload_n 1, 1) := by decide +kernel
theorem dX5_isRoyalHit_13 : decode cX5_isRoyalHit 13 = .ok (.getfield 60, 3) := by decide +kernel
theorem dX5_isRoyalHit_16 : decode cX5_isRoyalHit 16 = .ok (.iload_n 2, 1) := by decide +kernel
theorem dX5_isRoyalHit_17 : decode cX5_isRoyalHit 17 = .ok (.iaload, 1) := by decide +kernel
theorem dX5_isRoyalHit_18 : decode cX5_isRoyalHit 18 = .ok (.iconst 1, 1) := by decide +kernel
theorem dX5_isRoyalHit_19 : decode cX5_isRoyalHit 19 = .ok (.iload_n 2, 1) := by decide +kernel
theorem dX5_isRoyalHit_20 : decode cX5_isRoyalHit 20 = .ok (.isub, 1) := by decide +kernel
theorem dX5_isRoyalHit_21 : decode cX5_isRoyalHit 21 = .ok (.invokevirtual 63, 3) := by decide +kernel
theorem dX5_isRoyalHit_24 : decode cX5_isRoyalHit 24 = .ok (.ifCond .eq 7, 3) := by decide +kernel
theorem dX5_isRoyalHit_27 : decode cX5_isRoyalHit 27 = .ok (.iconst 1, 1) := by decide +kernel
theorem dX5_isRoyalHit_28 : decode cX5_isRoyalHit 28 = .ok (.goto 4, 3) := by decide +kernel
theorem dX5_isRoyalHit_31 : decode cX5_isRoyalHit 31 = .ok (.iconst 0, 1) := by decide +kernel
theorem dX5_isRoyalHit_32 : decode cX5_isRoyalHit 32 = .ok (.ireturn, 1) := by decide +kernel
set_option maxRecDepth 20000 in
theorem moX5_isRoyalHit_32 {o : Int32 × Hp} {F : Nat} {h : Hp} {t0 : Int32} (hE : sX5_isRoyalHit_32 F h  t0 = some o) : Le h o.2 := by
  obtain ⟨g_1, hE⟩ := gd_e hE
  exact le_some2 hE
set_option maxRecDepth 20000 in
theorem moX5_isRoyalHit_31 {o : Int32 × Hp} {F : Nat} {h : Hp} (hE : sX5_isRoyalHit_31 F h  = some o) : Le h o.2 := by
  exact moX5_isRoyalHit_32 hE
set_option maxRecDepth 20000 in
theorem moX5_isRoyalHit {o : Int32 × Hp} {F : Nat} {h : Hp} {x0 : Nat} {x1 : Nat} {x2 : Int32} (hE : sX5_isRoyalHit F h x0 x1 x2 = some o) : Le h o.2 := by
  obtain ⟨r_1, er_1, hE⟩ := cl_e hE
  obtain ⟨g_2, hE⟩ := gd_e hE
  rcases br_e hE with ⟨_, hE⟩ | ⟨_, hE⟩
  · exact moX5_isRoyalHit_31 hE
  · obtain ⟨r_4, er_4, hE⟩ := cl_e hE
    obtain ⟨g_5, hE⟩ := gd_e hE
    obtain ⟨o_6, eo_6, hE⟩ := cl_e hE
    refine (moX5_isHit eo_6).tr ?_
    rcases br_e hE with ⟨_, hE⟩ | ⟨_, hE⟩
    · exact moX5_isRoyalHit_31 hE
    · exact moX5_isRoyalHit_32 hE
set_option maxRecDepth 20000 in
theorem bX5_isRoyalHit_32 {p : Program} {l : Launch} {e : Env} {s : State} {m : MethodId} {args : Array Value} {below : List Frame} {meth : Method} {c : Code} {X : Ec} {h0 : Hp} {o : Int32 × Hp} {F : Nat} (C : Cx X p s m args meth c RX5 cX5_isRoyalHit 3 (some .boolean) "isRoyalHit") {h : Hp} {t0 : Int32} {H : Heap} {locs : List Loc} (hkm : Km h0 h) (hW : Wx X h H) (hZ : va_S (aA (eB X)) s.heap H locs) (ls : Array Slot) (hl : lv_has ls 3 []) (hE : sX5_isRoyalHit_32 F h  t0 = some o) : W p l e (rm 1 38) s m args below meth c H locs 0 0 (MQ below (QI X h0 o.1 o.2) args s 0 0 (aA (eB X))) (F0 m 32 ls [.int t0]) := by
  obtain ⟨g_1, hE⟩ := gd_e hE
  exact x_iret C rfl (narB g_1) hW hZ hkm hE dX5_isRoyalHit_32
set_option maxRecDepth 20000 in
theorem bX5_isRoyalHit_31 {p : Program} {l : Launch} {e : Env} {s : State} {m : MethodId} {args : Array Value} {below : List Frame} {meth : Method} {c : Code} {X : Ec} {h0 : Hp} {o : Int32 × Hp} {F : Nat} (C : Cx X p s m args meth c RX5 cX5_isRoyalHit 3 (some .boolean) "isRoyalHit") {h : Hp} {H : Heap} {locs : List Loc} (hkm : Km h0 h) (hW : Wx X h H) (hZ : va_S (aA (eB X)) s.heap H locs) (ls : Array Slot) (hl : lv_has ls 3 []) (hE : sX5_isRoyalHit_31 F h  = some o) : W p l e (rm 1 38) s m args below meth c H locs 0 0 (MQ below (QI X h0 o.1 o.2) args s 0 0 (aA (eB X))) (F0 m 31 ls []) := by
  refine lv_iconst (v := (0 : Int32)) C.1 C.2.1 dX5_isRoyalHit_31 (by decide) ?_
  exact bX5_isRoyalHit_32 C hkm hW hZ _ (lv_sub hl [] rfl) hE
set_option maxRecDepth 20000 in
theorem ct_X5_isRoyalHit (l : Launch) (X : Ec) (F : Nat) {h : Hp} {x0 : Nat} {x1 : Nat} {x2 : Int32} {o : Int32 × Hp} (k_x0 : hK h x0 = 5) (k_x1 : hK h x1 = 3) (hE : sX5_isRoyalHit F h x0 x1 x2 = some o) : MetI l yX5_isRoyalHit cX5_isRoyalHit 3 (some .boolean) 1 38 X [.ref x0, .ref x1, .int x2] h o := by
  refine x_met (by decide) (Nat.le_of_ble_eq_true rfl) ?_
  intro p e s m below meth c ls C hl hW hZ
  have hl : lv_has ls 3 [(0, .ref x0), (1, .ref x1), (2, .int x2)] := hl
  have hkm : Km h h := Km.rf h
  refine lv_aload_n C.1 C.2.1 dX5_isRoyalHit_0 rfl (lv_at hl 1 rfl) ?_
  obtain ⟨r_1, er_1, hE⟩ := cl_e hE
  refine gf_X5_60 C hW k_x1 er_1 dX5_isRoyalHit_1 (fun k_r_1 => ?_)
  refine lv_iload_n C.1 C.2.1 dX5_isRoyalHit_4 rfl (lv_at hl 2 rfl) ?_
  obtain ⟨g_2, hE⟩ := gd_e hE
  refine y_iald C hW k_r_1 g_2 dX5_isRoyalHit_5 ?_
  refine lv_iconst (v := (-1 : Int32)) C.1 C.2.1 dX5_isRoyalHit_6 (by decide) ?_
  refine lv_icmp_eq (tgt := 31) C.1 C.2.1 dX5_isRoyalHit_7 (by decide) (fun c_3 => ?_) (fun c_3 => ?_)
  · have hE := br_p hE c_3
    exact bX5_isRoyalHit_31 C hkm hW hZ _ (lv_sub hl [] rfl) hE
  · have hE := br_n hE c_3
    refine lv_aload_n C.1 C.2.1 dX5_isRoyalHit_10 rfl (lv_at hl 0 rfl) ?_
    refine lv_aload_n C.1 C.2.1 dX5_isRoyalHit_11 rfl (lv_at hl 1 rfl) ?_
    refine lv_aload_n C.1 C.2.1 dX5_isRoyalHit_12 rfl (lv_at hl 1 rfl) ?_
    obtain ⟨r_4, er_4, hE⟩ := cl_e hE
    refine gf_X5_60 C hW k_x1 er_4 dX5_isRoyalHit_13 (fun k_r_4 => ?_)
    refine lv_iload_n C.1 C.2.1 dX5_isRoyalHit_16 rfl (lv_at hl 2 rfl) ?_
    obtain ⟨g_5, hE⟩ := gd_e hE
    refine y_iald C hW k_r_4 g_5 dX5_isRoyalHit_17 ?_
    refine lv_iconst (v := (1 : Int32)) C.1 C.2.1 dX5_isRoyalHit_18 (by decide) ?_
    refine lv_iload_n C.1 C.2.1 dX5_isRoyalHit_19 rfl (lv_at hl 2 rfl) ?_
    refine lv_isub C.1 C.2.1 dX5_isRoyalHit_20 ?_
    obtain ⟨o_6, eo_6, hE⟩ := cl_e hE
    refine x_kI (o := o_6) (z_runV (As := [.ref x1, .int (hI h r_4 x2.toNatClampNeg), .int ((1 : Int32) - x2)]) (rest := []) C (ct_X5_isHit l X F k_x0 k_x1 eo_6) cw_X5_63 hW hZ k_x0 (by decide) rfl rfl rfl hl.1 (Nat.le_of_ble_eq_true rfl) rfl dX5_isRoyalHit_21 ⟨Nat.le_of_ble_eq_true rfl, Nat.le_of_ble_eq_true rfl⟩ ⟨Nat.le_refl _, Nat.le_refl _⟩) hZ (fun _ _ hW km hZ => ?_)
    replace hkm := hkm.tr km
    replace k_x0 := km.at k_x0 (by decide)
    replace k_x1 := km.at k_x1 (by decide)
    refine lv_if_eq (tgt := 31) C.1 C.2.1 dX5_isRoyalHit_24 (by decide) (fun c_7 => ?_) (fun c_7 => ?_)
    · have hE := br_p hE c_7
      exact bX5_isRoyalHit_31 C hkm hW hZ _ (lv_sub hl [] rfl) hE
    · have hE := br_n hE c_7
      refine lv_iconst (v := (1 : Int32)) C.1 C.2.1 dX5_isRoyalHit_27 (by decide) ?_
      refine lv_goto (tgt := 32) C.1 C.2.1 dX5_isRoyalHit_28 (by decide) ?_
      exact bX5_isRoyalHit_32 C hkm hW hZ _ (lv_sub hl [] rfl) hE
set_option maxRecDepth 100000 in
theorem ms_43 : Cond.selects RX5 yX5_hasRightPass yX5_hasRightPass ∈ W0 := w0_in (List.mem_append_left _ (List.mem_of_getElem? (i := 43) rfl)) rfl
set_option maxRecDepth 100000 in
theorem ms_42 : Cond.selects RX5 yX5_hasRightRights yX5_hasRightRights ∈ W0 := w0_in (List.mem_append_left _ (List.mem_of_getElem? (i := 42) rfl)) rfl
set_option maxRecDepth 100000 in
theorem ms_41 : Cond.selects RX5 yX5_hasLateMan yX5_hasLateMan ∈ W0 := w0_in (List.mem_append_left _ (List.mem_of_getElem? (i := 41) rfl)) rfl
set_option maxRecDepth 100000 in
theorem ms_40 : Cond.selects RX5 yX5_hasRightMen yX5_hasRightMen ∈ W0 := w0_in (List.mem_append_left _ (List.mem_of_getElem? (i := 40) rfl)) rfl
set_option maxRecDepth 100000 in
theorem m_102 : Cond.fieldLink RX5 276 (TX1 7).1 (TX1 7).2.1 (TX1 7).2.2.1 ∈ W0 := w0_in (List.mem_append_right _ (List.mem_of_getElem? (i := 102) rfl)) rfl
set_option maxRecDepth 100000 in
theorem m_291 : Cond.fieldLink RX5 303 (TX3 3).1 (TX3 3).2.1 (TX3 3).2.2.1 ∈ W0 := w0_in (List.mem_append_right _ (List.mem_of_getElem? (i := 291) rfl)) rfl
set_option maxRecDepth 100000 in
theorem m_295 : Cond.fieldLink RX5 283 (TX3 4).1 (TX3 4).2.1 (TX3 4).2.2.1 ∈ W0 := w0_in (List.mem_append_right _ (List.mem_of_getElem? (i := 295) rfl)) rfl
set_option maxRecDepth 100000 in
theorem m_317 : Cond.fieldLink RX5 326 (TX3 9).1 (TX3 9).2.1 (TX3 9).2.2.1 ∈ W0 := w0_in (List.mem_append_right _ (List.mem_of_getElem? (i := 317) rfl)) rfl
set_option maxRecDepth 100000 in
theorem m_1016 : Cond.methodLink RX5 316 yX5_hasRightMen ∈ W0 := w0_in (List.mem_append_right _ (List.mem_of_getElem? (i := 1016) rfl)) rfl
set_option maxRecDepth 100000 in
theorem m_1018 : Cond.instanceMethod yX5_hasRightMen ∈ W0 := w0_in (List.mem_append_right _ (List.mem_of_getElem? (i := 1018) rfl)) rfl
set_option maxRecDepth 100000 in
theorem m_1019 : Cond.code yX5_hasRightMen cX5_hasRightMen 8 (some .boolean) ∈ W0 := w0_in (List.mem_append_right _ (List.mem_of_getElem? (i := 1019) rfl)) rfl
set_option maxRecDepth 100000 in
theorem m_1031 : Cond.methodLink RX5 320 yX5_hasLateMan ∈ W0 := w0_in (List.mem_append_right _ (List.mem_of_getElem? (i := 1031) rfl)) rfl
set_option maxRecDepth 100000 in
theorem m_1033 : Cond.instanceMethod yX5_hasLateMan ∈ W0 := w0_in (List.mem_append_right _ (List.mem_of_getElem? (i := 1033) rfl)) rfl
set_option maxRecDepth 100000 in
theorem m_1034 : Cond.code yX5_hasLateMan cX5_hasLateMan 7 (some .boolean) ∈ W0 := w0_in (List.mem_append_right _ (List.mem_of_getElem? (i := 1034) rfl)) rfl
set_option maxRecDepth 100000 in
theorem m_1040 : Cond.methodLink RX5 323 yX5_hasRightRights ∈ W0 := w0_in (List.mem_append_right _ (List.mem_of_getElem? (i := 1040) rfl)) rfl
set_option maxRecDepth 100000 in
theorem m_1042 : Cond.instanceMethod yX5_hasRightRights ∈ W0 := w0_in (List.mem_append_right _ (List.mem_of_getElem? (i := 1042) rfl)) rfl
set_option maxRecDepth 100000 in
theorem m_1043 : Cond.code yX5_hasRightRights cX5_hasRightRights 5 (some .boolean) ∈ W0 := w0_in (List.mem_append_right _ (List.mem_of_getElem? (i := 1043) rfl)) rfl
set_option maxRecDepth 100000 in
theorem m_1049 : Cond.methodLink RX5 329 yX5_hasRightPass ∈ W0 := w0_in (List.mem_append_right _ (List.mem_of_getElem? (i := 1049) rfl)) rfl
set_option maxRecDepth 100000 in
theorem m_1051 : Cond.instanceMethod yX5_hasRightPass ∈ W0 := w0_in (List.mem_append_right _ (List.mem_of_getElem? (i := 1051) rfl)) rfl
set_option maxRecDepth 100000 in
theorem m_1052 : Cond.code yX5_hasRightPass cX5_hasRightPass 8 (some .boolean) ∈ W0 := w0_in (List.mem_append_right _ (List.mem_of_getElem? (i := 1052) rfl)) rfl
set_option maxRecDepth 100000 in
theorem m_1066 : Cond.methodLink RX5 279 yX5_isRoyalHit ∈ W0 := w0_in (List.mem_append_right _ (List.mem_of_getElem? (i := 1066) rfl)) rfl
set_option maxRecDepth 100000 in
theorem m_1067 : Cond.instanceMethod yX5_isRoyalHit ∈ W0 := w0_in (List.mem_append_right _ (List.mem_of_getElem? (i := 1067) rfl)) rfl
set_option maxRecDepth 100000 in
theorem m_1068 : Cond.selects RX5 yX5_isRoyalHit yX5_isRoyalHit ∈ W0 := w0_in (List.mem_append_right _ (List.mem_of_getElem? (i := 1068) rfl)) rfl
set_option maxRecDepth 100000 in
theorem m_1069 : Cond.code yX5_isRoyalHit cX5_isRoyalHit 3 (some .boolean) ∈ W0 := w0_in (List.mem_append_right _ (List.mem_of_getElem? (i := 1069) rfl)) rfl
section
variable {p : Program} {l : Launch} {e : Env} {R : Room} {s : State} {m : MethodId} {args : Array Value} {below : List Frame} {meth : Method} {c : Code} {H : Heap} {locs : List Loc} {cells slots : Nat} {Q : State → Prop}
variable {cc : ByteArray} {pc : Nat} {ls : Array Slot} {rest : List Value} {X : Ec} {h h1 : Hp} {nL : Nat} {rt : Option FieldType} {mn : String}
theorem gf_X5_303 {a r : Nat} (C : Cx X p s m args meth c RX5 cc nL rt mn) (hW : Wx X h H) (ha : hK h a = 3) (hr : hR h a 3 = some r) (hdg : decode cc pc = .ok (.getfield 303, 3)) (kk : hK h r = 18 → W p l e R s m args below meth c H locs cells slots Q (F0 m (pc + 3) ls (.ref r :: rest))) : W p l e R s m args below meth c H locs cells slots Q (F0 m pc ls (.ref a :: rest)) :=
  y_getr C hW ha i_X3 (by decide) rfl (by decide) m_291 rfl rfl hr hdg kk
theorem gf_X5_276 {a : Nat} (C : Cx X p s m args meth c RX5 cc nL rt mn) (hW : Wx X h H) (ha : hK h a = 1) (hdg : decode cc pc = .ok (.getfield 276, 3)) (kk : W p l e R s m args below meth c H locs cells slots Q (F0 m (pc + 3) ls (.int (hI h a 7) :: rest))) : W p l e R s m args below meth c H locs cells slots Q (F0 m pc ls (.ref a :: rest)) :=
  y_geti C hW ha i_X1 (by decide) rfl (by decide) m_102 rfl hdg kk
theorem gf_X5_283 {a r : Nat} (C : Cx X p s m args meth c RX5 cc nL rt mn) (hW : Wx X h H) (ha : hK h a = 3) (hr : hR h a 4 = some r) (hdg : decode cc pc = .ok (.getfield 283, 3)) (kk : hK h r = 17 → W p l e R s m args below meth c H locs cells slots Q (F0 m (pc + 3) ls (.ref r :: rest))) : W p l e R s m args below meth c H locs cells slots Q (F0 m pc ls (.ref a :: rest)) :=
  y_getr C hW ha i_X3 (by decide) rfl (by decide) m_295 rfl rfl hr hdg kk
theorem gf_X5_326 {a : Nat} (C : Cx X p s m args meth c RX5 cc nL rt mn) (hW : Wx X h H) (ha : hK h a = 3) (hdg : decode cc pc = .ok (.getfield 326, 3)) (kk : W p l e R s m args below meth c H locs cells slots Q (F0 m (pc + 3) ls (.long (hJ h a 9) :: rest))) : W p l e R s m args below meth c H locs cells slots Q (F0 m pc ls (.ref a :: rest)) :=
  y_getj C hW ha i_X3 (by decide) rfl (by decide) m_317 rfl hdg kk
end
theorem cw_X5_279 : cwd RX5 279 yX5_isRoyalHit cX5_isRoyalHit 3 (some .boolean) false 2 := ⟨m_1069, m_1066, m_7, ⟨m_1067, m_1068⟩, by decide, by decide, by decide +kernel⟩
theorem cw_X5_316 : cwd RX5 316 yX5_hasRightMen cX5_hasRightMen 8 (some .boolean) false 1 := ⟨m_1019, m_1016, m_7, ⟨m_1018, ms_40⟩, by decide, by decide, by decide +kernel⟩
theorem cw_X5_320 : cwd RX5 320 yX5_hasLateMan cX5_hasLateMan 7 (some .boolean) false 1 := ⟨m_1034, m_1031, m_7, ⟨m_1033, ms_41⟩, by decide, by decide, by decide +kernel⟩
theorem cw_X5_323 : cwd RX5 323 yX5_hasRightRights cX5_hasRightRights 5 (some .boolean) false 1 := ⟨m_1043, m_1040, m_7, ⟨m_1042, ms_42⟩, by decide, by decide, by decide +kernel⟩
theorem cw_X5_329 : cwd RX5 329 yX5_hasRightPass cX5_hasRightPass 8 (some .boolean) false 1 := ⟨m_1052, m_1049, m_7, ⟨m_1051, ms_43⟩, by decide, by decide, by decide +kernel⟩
theorem dX5_faultOf_0 : decode cX5_faultOf 0 = .ok (.aload_n 0, 1) := by decide +kernel
theorem dX5_faultOf_1 : decode cX5_faultOf 1 = .ok (.aload_n 1, 1) := by decide +kernel
theorem dX5_faultOf_2 : decode cX5_faultOf 2 = .ok (.invokevirtual 316, 3) := by decide +kernel
theorem dX5_faultOf_5 : decode cX5_faultOf 5 = .ok (.ifCond .ne 5, 3) := by decide +kernel
theorem dX5_faultOf_8 : decode cX5_faultOf 8 = .ok (.iconst 2, 1) := by decide +kernel
theorem dX5_faultOf_9 : decode cX5_faultOf 9 = .ok (.ireturn, 1) := by decide +kernel
theorem dX5_faultOf_10 : decode cX5_faultOf 10 = .ok (.aload_n 0, 1) := by decide +kernel
theorem dX5_faultOf_11 : decode cX5_faultOf 11 = .ok (.aload_n 1, 1) := by decide +kernel
theorem dX5_faultOf_12 : decode cX5_faultOf 12 = .ok (.invokevirtual 320, 3) := by decide +kernel
theorem dX5_faultOf_15 : decode cX5_faultOf 15 = .ok (.ifCond .eq 5, 3) := by decide +kernel
theorem dX5_faultOf_18 : decode cX5_faultOf 18 = .ok (.iconst 3, 1) := by decide +kernel
theorem dX5_faultOf_19 : decode cX5_faultOf 19 = .ok (.ireturn, 1) := by decide +kernel
theorem dX5_faultOf_20 : decode cX5_faultOf 20 = .ok (.aload_n 0, 1) := by decide +kernel
theorem dX5_faultOf_21 : decode cX5_faultOf 21 = .ok (.aload_n 1, 1) := by decide +kernel
theorem dX5_faultOf_22 : decode cX5_faultOf 22 = .ok (.invokevirtual 323, 3) := by decide +kernel
theorem dX5_faultOf_25 : decode cX5_faultOf 25 = .ok (.ifCond .ne 5, 3) := by decide +kernel
theorem dX5_faultOf_28 : decode cX5_faultOf 28 = .ok (.iconst 4, 1) := by decide +kernel
theorem dX5_faultOf_29 : decode cX5_faultOf 29 = .ok (.ireturn, 1) := by decide +kernel
theorem dX5_faultOf_30 : decode cX5_faultOf 30 = .ok (.aload_n 1, 1) := by decide +kernel
theorem dX5_faultOf_31 : decode cX5_faultOf 31 = .ok (.getfield 326, 3) := by decide +kernel
theorem dX5_faultOf_34 : decode cX5_faultOf 34 = .ok (.lconst 0, 1) := by decide +kernel
theorem dX5_faultOf_35 : decode cX5_faultOf 35 = .ok (.lcmp, 1) := by decide +kernel
theorem dX5_faultOf_36 : decode cX5_faultOf 36 = .ok (.ifCond .eq 13, 3) := by decide +kernel
theorem dX5_faultOf_39 : decode cX5_faultOf 39 = .ok (.aload_n 0, 1) := by decide +kernel
theorem dX5_faultOf_40 : decode cX5_faultOf 40 = .ok (.aload_n 1, 1) := by decide +kernel
theorem dX5_faultOf_41 : decode cX5_faultOf 41 = .ok (.invokevirtual 329, 3) := by decide +kernel
theorem dX5_faultOf_44 : decode cX5_faultOf 44 = .ok (.ifCond .ne 5, 3) := by decide +kernel
theorem dX5_faultOf_47 : decode cX5_faultOf 47 = .ok (.iconst 5, 1) := by decide +kernel
theorem dX5_faultOf_48 : decode cX5_faultOf 48 = .ok (.ireturn, 1) := by decide +kernel
theorem dX5_faultOf_49 : decode cX5_faultOf 49 = .ok (.aload_n 0, 1) := by decide +kernel
theorem dX5_faultOf_50 : decode cX5_faultOf 50 = .ok (.aload_n 1, 1) := by decide +kernel
theorem dX5_faultOf_51 : decode cX5_faultOf 51 = .ok (.iconst 1, 1) := by decide +kernel
theorem dX5_faultOf_52 : decode cX5_faultOf 52 = .ok (.aload_n 1, 1) := by decide +kernel
theorem dX5_faultOf_53 : decode cX5_faultOf 53 = .ok (.getfield 78, 3) := by decide +kernel
theorem dX5_faultOf_56 : decode cX5_faultOf 56 = .ok (.isub, 1) := by decide +kernel
theorem dX5_faultOf_57 : decode cX5_faultOf 57 = .ok (.invokevirtual 279, 3) := by decide +kernel
theorem dX5_faultOf_60 : decode cX5_faultOf 60 = .ok (.ifCond .eq 6, 3) := by decide +kernel
theorem dX5_faultOf_63 : decode cX5_faultOf 63 = .ok (.bipush 6, 2) := by decide +kernel
theorem dX5_faultOf_65 : decode cX5_faultOf 65 = .ok (.ireturn, 1) := by decide +kernel
theorem dX5_faultOf_66 : decode cX5_faultOf 66 = .ok (.aload_n 0, 1) := by decide +kernel
theorem dX5_faultOf_67 : decode cX5_faultOf 67 = .ok (.getfield 22, 3) := by decide +kernel
theorem dX5_faultOf_70 : decode cX5_faultOf 70 = .ok (.getfield 276, 3) := by decide +kernel
theorem dX5_faultOf_73 : decode cX5_faultOf 73 = .ok (.ifCond .ne 24, 3) := by decide +kernel
theorem dX5_faultOf_76 : decode cX5_faultOf 76 = .ok (.aload_n 1, 1) := by decide +kernel
theorem dX5_faultOf_77 : decode cX5_faultOf 77 = .ok (.getfield 283, 3) := by decide +kernel
theorem dX5_faultOf_80 : decode cX5_faultOf 80 = .ok (.iconst 0, 1) := by decide +kernel
theorem dX5_faultOf_81 : decode cX5_faultOf 81 = .ok (.iaload, 1) := by decide +kernel
theorem dX5_faultOf_82 : decode cX5_faultOf 82 = .ok (.ifCond .ne 12, 3) := by decide +kernel
theorem dX5_faultOf_85 : decode cX5_faultOf 85 = .ok (.aload_n 1, 1) := by decide +kernel
theorem dX5_faultOf_86 : decode cX5_faultOf 86 = .ok (.getfield 283, 3) := by decide +kernel
theorem dX5_faultOf_89 : decode cX5_faultOf 89 = .ok (.iconst 1, 1) := by decide +kernel
theorem dX5_faultOf_90 : decode cX5_faultOf 90 = .ok (.iaload, 1) := by decide +kernel
theorem dX5_faultOf_91 : decode cX5_faultOf 91 = .ok (.ifCond .eq 6, 3) := by decide +kernel
theorem dX5_faultOf_94 : decode cX5_faultOf 94 = .ok (.bipush 7, 2) := by decide +kernel
theorem dX5_faultOf_96 : decode cX5_faultOf 96 = .ok (.ireturn, 1) := by decide +kernel
theorem dX5_faultOf_97 : decode cX5_faultOf 97 = .ok (.aload_n 0, 1) := by decide +kernel
theorem dX5_faultOf_98 : decode cX5_faultOf 98 = .ok (.getfield 22, 3) := by decide +kernel
theorem dX5_faultOf_101 : decode cX5_faultOf 101 = .ok (.iconst 1, 1) := by decide +kernel
theorem dX5_faultOf_102 : decode cX5_faultOf 102 = .ok (.invokevirtual 104, 3) := by decide +kernel
theorem dX5_faultOf_105 : decode cX5_faultOf 105 = .ok (.ifCond .ne 30, 3) := by decide +kernel
theorem dX5_faultOf_108 : decode cX5_faultOf 108 = .ok (.aload_n 1, 1) := by decide +kernel
theorem dX5_faultOf_109 : decode cX5_faultOf 109 = .ok (.getfield 303, 3) := by decide +kernel
theorem dX5_faultOf_112 : decode cX5_faultOf 112 = .ok (.iconst 0, 1) := by decide +kernel
theorem dX5_faultOf_113 : decode cX5_faultOf 113 = .ok (.laload, 1) := by decide +kernel
theorem dX5_faultOf_114 : decode cX5_faultOf 114 = .ok (.lconst 0, 1) := by decide +kernel
theorem dX5_faultOf_115 : decode cX5_faultOf 115 = .ok (.lcmp, 1) := by decide +kernel
theorem dX5_faultOf_116 : decode cX5_faultOf 116 = .ok (.ifCond .ne 14, 3) := by decide +kernel
theorem dX5_faultOf_119 : decode cX5_faultOf 119 = .ok (.aload_n 1, 1) := by decide +kernel
theorem dX5_faultOf_120 : decode cX5_faultOf 120 = .ok (.getfield 303, 3) := by decide +kernel
theorem dX5_faultOf_123 : decode cX5_faultOf 123 = .ok (.iconst 1, 1) := by decide +kernel
theorem dX5_faultOf_124 : decode cX5_faultOf 124 = .ok (.laload, 1) := by decide +kernel
theorem dX5_faultOf_125 : decode cX5_faultOf 125 = .ok (.lconst 0, 1) := by decide +kernel
theorem dX5_faultOf_126 : decode cX5_faultOf 126 = .ok (.lcmp, 1) := by decide +kernel
theorem dX5_faultOf_127 : decode cX5_faultOf 127 = .ok (.ifCond .eq 8, 3) := by decide +kernel
theorem dX5_faultOf_130 : decode cX5_faultOf 130 = .ok (.bipush 8, 2) := by decide +kernel
theorem dX5_faultOf_132 : decode cX5_faultOf 132 = .ok (.goto 4, 3) := by decide +kernel
theorem dX5_faultOf_135 : decode cX5_faultOf 135 = .ok (.iconst 0, 1) := by decide +kernel
theorem dX5_faultOf_136 : decode cX5_faultOf 136 = .ok (.ireturn, 1) := by decide +kernel
set_option maxRecDepth 20000 in
theorem moX5_faultOf_136 {o : Int32 × Hp} {F : Nat} {h : Hp} {t0 : Int32} (hE : sX5_faultOf_136 F h  t0 = some o) : Le h o.2 := by
  exact le_some2 hE
set_option maxRecDepth 20000 in
theorem moX5_faultOf_135 {o : Int32 × Hp} {F : Nat} {h : Hp} (hE : sX5_faultOf_135 F h  = some o) : Le h o.2 := by
  exact moX5_faultOf_136 hE
set_option maxRecDepth 20000 in
theorem moX5_faultOf_130 {o : Int32 × Hp} {F : Nat} {h : Hp} (hE : sX5_faultOf_130 F h  = some o) : Le h o.2 := by
  exact moX5_faultOf_136 hE
set_option maxRecDepth 20000 in
theorem moX5_faultOf_97 {o : Int32 × Hp} {F : Nat} {h : Hp} {x0 : Nat} {x1 : Nat} (hE : sX5_faultOf_97 F h x0 x1 = some o) : Le h o.2 := by
  obtain ⟨r_1, er_1, hE⟩ := cl_e hE
  obtain ⟨o_2, eo_2, hE⟩ := cl_e hE
  refine (moX1_has eo_2).tr ?_
  rcases br_e hE with ⟨_, hE⟩ | ⟨_, hE⟩
  · obtain ⟨r_4, er_4, hE⟩ := cl_e hE
    obtain ⟨g_5, hE⟩ := gd_e hE
    rcases br_e hE with ⟨_, hE⟩ | ⟨_, hE⟩
    · obtain ⟨r_7, er_7, hE⟩ := cl_e hE
      obtain ⟨g_8, hE⟩ := gd_e hE
      rcases br_e hE with ⟨_, hE⟩ | ⟨_, hE⟩
      · exact moX5_faultOf_135 hE
      · exact moX5_faultOf_130 hE
    · exact moX5_faultOf_130 hE
  · exact moX5_faultOf_135 hE
set_option maxRecDepth 20000 in
theorem moX5_faultOf_94 {o : Int32 × Hp} {F : Nat} {h : Hp} (hE : sX5_faultOf_94 F h  = some o) : Le h o.2 := by
  exact le_some2 hE
set_option maxRecDepth 20000 in
theorem moX5_faultOf_49 {o : Int32 × Hp} {F : Nat} {h : Hp} {x0 : Nat} {x1 : Nat} (hE : sX5_faultOf_49 F h x0 x1 = some o) : Le h o.2 := by
  obtain ⟨o_1, eo_1, hE⟩ := cl_e hE
  refine (moX5_isRoyalHit eo_1).tr ?_
  rcases br_e hE with ⟨_, hE⟩ | ⟨_, hE⟩
  · obtain ⟨r_3, er_3, hE⟩ := cl_e hE
    rcases br_e hE with ⟨_, hE⟩ | ⟨_, hE⟩
    · obtain ⟨r_5, er_5, hE⟩ := cl_e hE
      obtain ⟨g_6, hE⟩ := gd_e hE
      rcases br_e hE with ⟨_, hE⟩ | ⟨_, hE⟩
      · obtain ⟨r_8, er_8, hE⟩ := cl_e hE
        obtain ⟨g_9, hE⟩ := gd_e hE
        rcases br_e hE with ⟨_, hE⟩ | ⟨_, hE⟩
        · exact moX5_faultOf_97 hE
        · exact moX5_faultOf_94 hE
      · exact moX5_faultOf_94 hE
    · exact moX5_faultOf_97 hE
  · exact le_some2 hE
set_option maxRecDepth 20000 in
theorem moX5_faultOf {o : Int32 × Hp} {F : Nat} {h : Hp} {x0 : Nat} {x1 : Nat} (hE : sX5_faultOf F h x0 x1 = some o) : Le h o.2 := by
  obtain ⟨o_1, eo_1, hE⟩ := cl_e hE
  refine (moX5_hasRightMen eo_1).tr ?_
  rcases br_e hE with ⟨_, hE⟩ | ⟨_, hE⟩
  · exact le_some2 hE
  · obtain ⟨o_3, eo_3, hE⟩ := cl_e hE
    refine (moX5_hasLateMan eo_3).tr ?_
    rcases br_e hE with ⟨_, hE⟩ | ⟨_, hE⟩
    · obtain ⟨o_5, eo_5, hE⟩ := cl_e hE
      refine (moX5_hasRightRights eo_5).tr ?_
      rcases br_e hE with ⟨_, hE⟩ | ⟨_, hE⟩
      · exact le_some2 hE
      · rcases br_e hE with ⟨_, hE⟩ | ⟨_, hE⟩
        · exact moX5_faultOf_49 hE
        · obtain ⟨o_8, eo_8, hE⟩ := cl_e hE
          refine (moX5_hasRightPass eo_8).tr ?_
          rcases br_e hE with ⟨_, hE⟩ | ⟨_, hE⟩
          · exact le_some2 hE
          · exact moX5_faultOf_49 hE
    · exact le_some2 hE
set_option maxRecDepth 20000 in
theorem bX5_faultOf_136 {p : Program} {l : Launch} {e : Env} {s : State} {m : MethodId} {args : Array Value} {below : List Frame} {meth : Method} {c : Code} {X : Ec} {h0 : Hp} {o : Int32 × Hp} {F : Nat} (C : Cx X p s m args meth c RX5 cX5_faultOf 2 (some .int) "faultOf") {h : Hp} {t0 : Int32} {H : Heap} {locs : List Loc} (hkm : Km h0 h) (hW : Wx X h H) (hZ : va_S (aA (eB X)) s.heap H locs) (ls : Array Slot) (hl : lv_has ls 2 []) (hE : sX5_faultOf_136 F h  t0 = some o) : W p l e (rm 3 72) s m args below meth c H locs 0 0 (MQ below (QI X h0 o.1 o.2) args s 0 0 (aA (eB X))) (F0 m 136 ls [.int t0]) := by
  exact x_iret C rfl rfl hW hZ hkm hE dX5_faultOf_136
set_option maxRecDepth 20000 in
theorem bX5_faultOf_135 {p : Program} {l : Launch} {e : Env} {s : State} {m : MethodId} {args : Array Value} {below : List Frame} {meth : Method} {c : Code} {X : Ec} {h0 : Hp} {o : Int32 × Hp} {F : Nat} (C : Cx X p s m args meth c RX5 cX5_faultOf 2 (some .int) "faultOf") {h : Hp} {H : Heap} {locs : List Loc} (hkm : Km h0 h) (hW : Wx X h H) (hZ : va_S (aA (eB X)) s.heap H locs) (ls : Array Slot) (hl : lv_has ls 2 []) (hE : sX5_faultOf_135 F h  = some o) : W p l e (rm 3 72) s m args below meth c H locs 0 0 (MQ below (QI X h0 o.1 o.2) args s 0 0 (aA (eB X))) (F0 m 135 ls []) := by
  refine lv_iconst (v := (0 : Int32)) C.1 C.2.1 dX5_faultOf_135 (by decide) ?_
  exact bX5_faultOf_136 C hkm hW hZ _ (lv_sub hl [] rfl) hE
set_option maxRecDepth 20000 in
theorem bX5_faultOf_130 {p : Program} {l : Launch} {e : Env} {s : State} {m : MethodId} {args : Array Value} {below : List Frame} {meth : Method} {c : Code} {X : Ec} {h0 : Hp} {o : Int32 × Hp} {F : Nat} (C : Cx X p s m args meth c RX5 cX5_faultOf 2 (some .int) "faultOf") {h : Hp} {H : Heap} {locs : List Loc} (hkm : Km h0 h) (hW : Wx X h H) (hZ : va_S (aA (eB X)) s.heap H locs) (ls : Array Slot) (hl : lv_has ls 2 []) (hE : sX5_faultOf_130 F h  = some o) : W p l e (rm 3 72) s m args below meth c H locs 0 0 (MQ below (QI X h0 o.1 o.2) args s 0 0 (aA (eB X))) (F0 m 130 ls []) := by
  refine lv_bipush (v := (8 : Int32)) C.1 C.2.1 dX5_faultOf_130 (by decide) ?_
  refine lv_goto (tgt := 136) C.1 C.2.1 dX5_faultOf_132 (by decide) ?_
  exact bX5_faultOf_136 C hkm hW hZ _ (lv_sub hl [] rfl) hE
set_option maxRecDepth 20000 in
theorem bX5_faultOf_97 {p : Program} {l : Launch} {e : Env} {s : State} {m : MethodId} {args : Array Value} {below : List Frame} {meth : Method} {c : Code} {X : Ec} {h0 : Hp} {o : Int32 × Hp} {F : Nat} (C : Cx X p s m args meth c RX5 cX5_faultOf 2 (some .int) "faultOf") {h : Hp} {x0 : Nat} {x1 : Nat} {H : Heap} {locs : List Loc} (k_x0 : hK h x0 = 5) (k_x1 : hK h x1 = 3) (hkm : Km h0 h) (hW : Wx X h H) (hZ : va_S (aA (eB X)) s.heap H locs) (ls : Array Slot) (hl : lv_has ls 2 [(0, .ref x0), (1, .ref x1)]) (hE : sX5_faultOf_97 F h x0 x1 = some o) : W p l e (rm 3 72) s m args below meth c H locs 0 0 (MQ below (QI X h0 o.1 o.2) args s 0 0 (aA (eB X))) (F0 m 97 ls []) := by
  refine lv_aload_n C.1 C.2.1 dX5_faultOf_97 rfl (lv_at hl 0 rfl) ?_
  obtain ⟨r_1, er_1, hE⟩ := cl_e hE
  refine gf_X5_22 C hW k_x0 er_1 dX5_faultOf_98 (fun k_r_1 => ?_)
  refine lv_iconst (v := (1 : Int32)) C.1 C.2.1 dX5_faultOf_101 (by decide) ?_
  obtain ⟨o_2, eo_2, hE⟩ := cl_e hE
  refine x_kI (o := o_2) (z_runV (As := [.int (1 : Int32)]) (rest := []) C (ct_X1_has l X k_r_1 eo_2) cw_X5_104 hW hZ k_r_1 (by decide) rfl rfl rfl hl.1 (Nat.le_of_ble_eq_true rfl) rfl dX5_faultOf_102 ⟨Nat.le_of_ble_eq_true rfl, Nat.le_of_ble_eq_true rfl⟩ ⟨Nat.le_refl _, Nat.le_refl _⟩) hZ (fun _ _ hW km hZ => ?_)
  replace hkm := hkm.tr km
  replace k_x0 := km.at k_x0 (by decide)
  replace k_x1 := km.at k_x1 (by decide)
  refine lv_if_ne (tgt := 135) C.1 C.2.1 dX5_faultOf_105 (by decide) (fun c_3 => ?_) (fun c_3 => ?_)
  · have hE := br_n hE c_3
    exact bX5_faultOf_135 C hkm hW hZ _ (lv_sub hl [] rfl) hE
  · have hE := br_p hE c_3
    refine lv_aload_n C.1 C.2.1 dX5_faultOf_108 rfl (lv_at hl 1 rfl) ?_
    obtain ⟨r_4, er_4, hE⟩ := cl_e hE
    refine gf_X5_303 C hW k_x1 er_4 dX5_faultOf_109 (fun k_r_4 => ?_)
    refine lv_iconst (v := (0 : Int32)) C.1 C.2.1 dX5_faultOf_112 (by decide) ?_
    obtain ⟨g_5, hE⟩ := gd_e hE
    refine y_lald C hW k_r_4 g_5 dX5_faultOf_113 ?_
    refine lv_lconst (v := (0 : Int64)) C.1 C.2.1 dX5_faultOf_114 (by decide) ?_
    refine W.lcmp C.1 C.2.1 dX5_faultOf_115 ?_
    refine lv_if_ne (tgt := 130) C.1 C.2.1 dX5_faultOf_116 (by decide) (fun c_6 => ?_) (fun c_6 => ?_)
    · have hE := br_n hE c_6
      exact bX5_faultOf_130 C hkm hW hZ _ (lv_sub hl [] rfl) hE
    · have hE := br_p hE c_6
      refine lv_aload_n C.1 C.2.1 dX5_faultOf_119 rfl (lv_at hl 1 rfl) ?_
      obtain ⟨r_7, er_7, hE⟩ := cl_e hE
      refine gf_X5_303 C hW k_x1 er_7 dX5_faultOf_120 (fun k_r_7 => ?_)
      refine lv_iconst (v := (1 : Int32)) C.1 C.2.1 dX5_faultOf_123 (by decide) ?_
      obtain ⟨g_8, hE⟩ := gd_e hE
      refine y_lald C hW k_r_7 g_8 dX5_faultOf_124 ?_
      refine lv_lconst (v := (0 : Int64)) C.1 C.2.1 dX5_faultOf_125 (by decide) ?_
      refine W.lcmp C.1 C.2.1 dX5_faultOf_126 ?_
      refine lv_if_eq (tgt := 135) C.1 C.2.1 dX5_faultOf_127 (by decide) (fun c_9 => ?_) (fun c_9 => ?_)
      · have hE := br_p hE c_9
        exact bX5_faultOf_135 C hkm hW hZ _ (lv_sub hl [] rfl) hE
      · have hE := br_n hE c_9
        exact bX5_faultOf_130 C hkm hW hZ _ (lv_sub hl [] rfl) hE
set_option maxRecDepth 20000 in
theorem bX5_faultOf_94 {p : Program} {l : Launch} {e : Env} {s : State} {m : MethodId} {args : Array Value} {below : List Frame} {meth : Method} {c : Code} {X : Ec} {h0 : Hp} {o : Int32 × Hp} {F : Nat} (C : Cx X p s m args meth c RX5 cX5_faultOf 2 (some .int) "faultOf") {h : Hp} {H : Heap} {locs : List Loc} (hkm : Km h0 h) (hW : Wx X h H) (hZ : va_S (aA (eB X)) s.heap H locs) (ls : Array Slot) (hl : lv_has ls 2 []) (hE : sX5_faultOf_94 F h  = some o) : W p l e (rm 3 72) s m args below meth c H locs 0 0 (MQ below (QI X h0 o.1 o.2) args s 0 0 (aA (eB X))) (F0 m 94 ls []) := by
  refine lv_bipush (v := (7 : Int32)) C.1 C.2.1 dX5_faultOf_94 (by decide) ?_
  exact x_iret C rfl rfl hW hZ hkm hE dX5_faultOf_96
set_option maxRecDepth 20000 in
theorem bX5_faultOf_49 {p : Program} {l : Launch} {e : Env} {s : State} {m : MethodId} {args : Array Value} {below : List Frame} {meth : Method} {c : Code} {X : Ec} {h0 : Hp} {o : Int32 × Hp} {F : Nat} (C : Cx X p s m args meth c RX5 cX5_faultOf 2 (some .int) "faultOf") {h : Hp} {x0 : Nat} {x1 : Nat} {H : Heap} {locs : List Loc} (k_x0 : hK h x0 = 5) (k_x1 : hK h x1 = 3) (hkm : Km h0 h) (hW : Wx X h H) (hZ : va_S (aA (eB X)) s.heap H locs) (ls : Array Slot) (hl : lv_has ls 2 [(0, .ref x0), (1, .ref x1)]) (hE : sX5_faultOf_49 F h x0 x1 = some o) : W p l e (rm 3 72) s m args below meth c H locs 0 0 (MQ below (QI X h0 o.1 o.2) args s 0 0 (aA (eB X))) (F0 m 49 ls []) := by
  refine lv_aload_n C.1 C.2.1 dX5_faultOf_49 rfl (lv_at hl 0 rfl) ?_
  refine lv_aload_n C.1 C.2.1 dX5_faultOf_50 rfl (lv_at hl 1 rfl) ?_
  refine lv_iconst (v := (1 : Int32)) C.1 C.2.1 dX5_faultOf_51 (by decide) ?_
  refine lv_aload_n C.1 C.2.1 dX5_faultOf_52 rfl (lv_at hl 1 rfl) ?_
  refine gf_X5_78 C hW k_x1 dX5_faultOf_53 ?_
  refine lv_isub C.1 C.2.1 dX5_faultOf_56 ?_
  obtain ⟨o_1, eo_1, hE⟩ := cl_e hE
  refine x_kI (o := o_1) (z_runV (As := [.ref x1, .int ((1 : Int32) - (hI h x1 5))]) (rest := []) C (ct_X5_isRoyalHit l X F k_x0 k_x1 eo_1) cw_X5_279 hW hZ k_x0 (by decide) rfl rfl rfl hl.1 (Nat.le_of_ble_eq_true rfl) rfl dX5_faultOf_57 ⟨Nat.le_of_ble_eq_true rfl, Nat.le_of_ble_eq_true rfl⟩ ⟨Nat.le_refl _, Nat.le_refl _⟩) hZ (fun _ _ hW km hZ => ?_)
  replace hkm := hkm.tr km
  replace k_x0 := km.at k_x0 (by decide)
  replace k_x1 := km.at k_x1 (by decide)
  refine lv_if_eq (tgt := 66) C.1 C.2.1 dX5_faultOf_60 (by decide) (fun c_2 => ?_) (fun c_2 => ?_)
  · have hE := br_p hE c_2
    refine lv_aload_n C.1 C.2.1 dX5_faultOf_66 rfl (lv_at hl 0 rfl) ?_
    obtain ⟨r_3, er_3, hE⟩ := cl_e hE
    refine gf_X5_22 C hW k_x0 er_3 dX5_faultOf_67 (fun k_r_3 => ?_)
    refine gf_X5_276 C hW k_r_3 dX5_faultOf_70 ?_
    refine lv_if_ne (tgt := 97) C.1 C.2.1 dX5_faultOf_73 (by decide) (fun c_4 => ?_) (fun c_4 => ?_)
    · have hE := br_n hE c_4
      exact bX5_faultOf_97 C k_x0 k_x1 hkm hW hZ _ (lv_sub hl [0, 1] rfl) hE
    · have hE := br_p hE c_4
      refine lv_aload_n C.1 C.2.1 dX5_faultOf_76 rfl (lv_at hl 1 rfl) ?_
      obtain ⟨r_5, er_5, hE⟩ := cl_e hE
      refine gf_X5_283 C hW k_x1 er_5 dX5_faultOf_77 (fun k_r_5 => ?_)
      refine lv_iconst (v := (0 : Int32)) C.1 C.2.1 dX5_faultOf_80 (by decide) ?_
      obtain ⟨g_6, hE⟩ := gd_e hE
      refine y_iald C hW k_r_5 g_6 dX5_faultOf_81 ?_
      refine lv_if_ne (tgt := 94) C.1 C.2.1 dX5_faultOf_82 (by decide) (fun c_7 => ?_) (fun c_7 => ?_)
      · have hE := br_n hE c_7
        exact bX5_faultOf_94 C hkm hW hZ _ (lv_sub hl [] rfl) hE
      · have hE := br_p hE c_7
        refine lv_aload_n C.1 C.2.1 dX5_faultOf_85 rfl (lv_at hl 1 rfl) ?_
        obtain ⟨r_8, er_8, hE⟩ := cl_e hE
        refine gf_X5_283 C hW k_x1 er_8 dX5_faultOf_86 (fun k_r_8 => ?_)
        refine lv_iconst (v := (1 : Int32)) C.1 C.2.1 dX5_faultOf_89 (by decide) ?_
        obtain ⟨g_9, hE⟩ := gd_e hE
        refine y_iald C hW k_r_8 g_9 dX5_faultOf_90 ?_
        refine lv_if_eq (tgt := 97) C.1 C.2.1 dX5_faultOf_91 (by decide) (fun c_10 => ?_) (fun c_10 => ?_)
        · have hE := br_p hE c_10
          exact bX5_faultOf_97 C k_x0 k_x1 hkm hW hZ _ (lv_sub hl [0, 1] rfl) hE
        · have hE := br_n hE c_10
          exact bX5_faultOf_94 C hkm hW hZ _ (lv_sub hl [] rfl) hE
  · have hE := br_n hE c_2
    refine lv_bipush (v := (6 : Int32)) C.1 C.2.1 dX5_faultOf_63 (by decide) ?_
    exact x_iret C rfl rfl hW hZ hkm hE dX5_faultOf_65
set_option maxRecDepth 20000 in
theorem ct_X5_faultOf (l : Launch) (X : Ec) (F : Nat) {h : Hp} {x0 : Nat} {x1 : Nat} {o : Int32 × Hp} (k_x0 : hK h x0 = 5) (k_x1 : hK h x1 = 3) (hE : sX5_faultOf F h x0 x1 = some o) : MetI l yX5_faultOf cX5_faultOf 2 (some .int) 3 72 X [.ref x0, .ref x1] h o := by
  refine x_met (by decide) (Nat.le_of_ble_eq_true rfl) ?_
  intro p e s m below meth c ls C hl hW hZ
  have hl : lv_has ls 2 [(0, .ref x0), (1, .ref x1)] := hl
  have hkm : Km h h := Km.rf h
  refine lv_aload_n C.1 C.2.1 dX5_faultOf_0 rfl (lv_at hl 0 rfl) ?_
  refine lv_aload_n C.1 C.2.1 dX5_faultOf_1 rfl (lv_at hl 1 rfl) ?_
  obtain ⟨o_1, eo_1, hE⟩ := cl_e hE
  refine x_kI (o := o_1) (z_runV (As := [.ref x1]) (rest := []) C (ct_X5_hasRightMen l X F k_x0 k_x1 eo_1) cw_X5_316 hW hZ k_x0 (by decide) rfl rfl rfl hl.1 (Nat.le_of_ble_eq_true rfl) rfl dX5_faultOf_2 ⟨Nat.le_of_ble_eq_true rfl, Nat.le_of_ble_eq_true rfl⟩ ⟨Nat.le_refl _, Nat.le_refl _⟩) hZ (fun _ _ hW km hZ => ?_)
  replace hkm := hkm.tr km
  replace k_x0 := km.at k_x0 (by decide)
  replace k_x1 := km.at k_x1 (by decide)
  refine lv_if_ne (tgt := 10) C.1 C.2.1 dX5_faultOf_5 (by decide) (fun c_2 => ?_) (fun c_2 => ?_)
  · have hE := br_n hE c_2
    refine lv_aload_n C.1 C.2.1 dX5_faultOf_10 rfl (lv_at hl 0 rfl) ?_
    refine lv_aload_n C.1 C.2.1 dX5_faultOf_11 rfl (lv_at hl 1 rfl) ?_
    obtain ⟨o_3, eo_3, hE⟩ := cl_e hE
    refine x_kI (o := o_3) (z_runV (As := [.ref x1]) (rest := []) C (ct_X5_hasLateMan l X F k_x0 k_x1 eo_3) cw_X5_320 hW hZ k_x0 (by decide) rfl rfl rfl hl.1 (Nat.le_of_ble_eq_true rfl) rfl dX5_faultOf_12 ⟨Nat.le_of_ble_eq_true rfl, Nat.le_of_ble_eq_true rfl⟩ ⟨Nat.le_refl _, Nat.le_refl _⟩) hZ (fun _ _ hW km hZ => ?_)
    replace hkm := hkm.tr km
    replace k_x0 := km.at k_x0 (by decide)
    replace k_x1 := km.at k_x1 (by decide)
    refine lv_if_eq (tgt := 20) C.1 C.2.1 dX5_faultOf_15 (by decide) (fun c_4 => ?_) (fun c_4 => ?_)
    · have hE := br_p hE c_4
      refine lv_aload_n C.1 C.2.1 dX5_faultOf_20 rfl (lv_at hl 0 rfl) ?_
      refine lv_aload_n C.1 C.2.1 dX5_faultOf_21 rfl (lv_at hl 1 rfl) ?_
      obtain ⟨o_5, eo_5, hE⟩ := cl_e hE
      refine x_kI (o := o_5) (z_runV (As := [.ref x1]) (rest := []) C (ct_X5_hasRightRights l X F k_x0 k_x1 eo_5) cw_X5_323 hW hZ k_x0 (by decide) rfl rfl rfl hl.1 (Nat.le_of_ble_eq_true rfl) rfl dX5_faultOf_22 ⟨Nat.le_of_ble_eq_true rfl, Nat.le_of_ble_eq_true rfl⟩ ⟨Nat.le_refl _, Nat.le_refl _⟩) hZ (fun _ _ hW km hZ => ?_)
      replace hkm := hkm.tr km
      replace k_x0 := km.at k_x0 (by decide)
      replace k_x1 := km.at k_x1 (by decide)
      refine lv_if_ne (tgt := 30) C.1 C.2.1 dX5_faultOf_25 (by decide) (fun c_6 => ?_) (fun c_6 => ?_)
      · have hE := br_n hE c_6
        refine lv_aload_n C.1 C.2.1 dX5_faultOf_30 rfl (lv_at hl 1 rfl) ?_
        refine gf_X5_326 C hW k_x1 dX5_faultOf_31 ?_
        refine lv_lconst (v := (0 : Int64)) C.1 C.2.1 dX5_faultOf_34 (by decide) ?_
        refine W.lcmp C.1 C.2.1 dX5_faultOf_35 ?_
        refine lv_if_eq (tgt := 49) C.1 C.2.1 dX5_faultOf_36 (by decide) (fun c_7 => ?_) (fun c_7 => ?_)
        · have hE := br_p hE c_7
          exact bX5_faultOf_49 C k_x0 k_x1 hkm hW hZ _ (lv_sub hl [0, 1] rfl) hE
        · have hE := br_n hE c_7
          refine lv_aload_n C.1 C.2.1 dX5_faultOf_39 rfl (lv_at hl 0 rfl) ?_
          refine lv_aload_n C.1 C.2.1 dX5_faultOf_40 rfl (lv_at hl 1 rfl) ?_
          obtain ⟨o_8, eo_8, hE⟩ := cl_e hE
          refine x_kI (o := o_8) (z_runV (As := [.ref x1]) (rest := []) C (ct_X5_hasRightPass l X F k_x0 k_x1 eo_8) cw_X5_329 hW hZ k_x0 (by decide) rfl rfl rfl hl.1 (Nat.le_of_ble_eq_true rfl) rfl dX5_faultOf_41 ⟨Nat.le_of_ble_eq_true rfl, Nat.le_of_ble_eq_true rfl⟩ ⟨Nat.le_refl _, Nat.le_refl _⟩) hZ (fun _ _ hW km hZ => ?_)
          replace hkm := hkm.tr km
          replace k_x0 := km.at k_x0 (by decide)
          replace k_x1 := km.at k_x1 (by decide)
          refine lv_if_ne (tgt := 49) C.1 C.2.1 dX5_faultOf_44 (by decide) (fun c_9 => ?_) (fun c_9 => ?_)
          · have hE := br_n hE c_9
            exact bX5_faultOf_49 C k_x0 k_x1 hkm hW hZ _ (lv_sub hl [0, 1] rfl) hE
          · have hE := br_p hE c_9
            refine lv_iconst (v := (5 : Int32)) C.1 C.2.1 dX5_faultOf_47 (by decide) ?_
            exact x_iret C rfl rfl hW hZ hkm hE dX5_faultOf_48
      · have hE := br_p hE c_6
        refine lv_iconst (v := (4 : Int32)) C.1 C.2.1 dX5_faultOf_28 (by decide) ?_
        exact x_iret C rfl rfl hW hZ hkm hE dX5_faultOf_29
    · have hE := br_n hE c_4
      refine lv_iconst (v := (3 : Int32)) C.1 C.2.1 dX5_faultOf_18 (by decide) ?_
      exact x_iret C rfl rfl hW hZ hkm hE dX5_faultOf_19
  · have hE := br_p hE c_2
    refine lv_iconst (v := (2 : Int32)) C.1 C.2.1 dX5_faultOf_8 (by decide) ?_
    exact x_iret C rfl rfl hW hZ hkm hE dX5_faultOf_9
