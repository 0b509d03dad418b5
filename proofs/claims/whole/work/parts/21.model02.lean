set_option maxRecDepth 100000 in
theorem ms_122 : Cond.selects RX15 yX15_isStep yX15_isStep ∈ W0 := w0_in (List.mem_append_left _ (List.mem_of_getElem? (i := 122) rfl)) rfl
set_option maxRecDepth 100000 in
theorem ms_121 : Cond.selects RX15 yX15_manAt yX15_manAt ∈ W0 := w0_in (List.mem_append_left _ (List.mem_of_getElem? (i := 121) rfl)) rfl
set_option maxRecDepth 100000 in
theorem ms_118 : Cond.selects RX15 yX15_isSign yX15_isSign ∈ W0 := w0_in (List.mem_append_left _ (List.mem_of_getElem? (i := 118) rfl)) rfl
set_option maxRecDepth 100000 in
theorem n_1809 : Cond.fieldLinkNest RX15 169 (TX14 2).1 (TX14 2).2.1 (TX14 2).2.2.1 "GameRulesModel" ∈ tables_1 := List.mem_of_getElem? (i := 1809) rfl
set_option maxRecDepth 100000 in
theorem n_1811 : Cond.fieldLinkNest RX15 172 (TX14 3).1 (TX14 3).2.1 (TX14 3).2.2.1 "GameRulesModel" ∈ tables_1 := List.mem_of_getElem? (i := 1811) rfl
set_option maxRecDepth 100000 in
theorem n_1813 : Cond.fieldLinkNest RX15 176 (TX14 4).1 (TX14 4).2.1 (TX14 4).2.2.1 "GameRulesModel" ∈ tables_1 := List.mem_of_getElem? (i := 1813) rfl
set_option maxRecDepth 100000 in
theorem m_2017 : Cond.methodLink RX15 94 yX15_isSign ∈ W0 := w0_in (List.mem_append_right _ (List.mem_of_getElem? (i := 2017) rfl)) rfl
set_option maxRecDepth 100000 in
theorem m_2019 : Cond.instanceMethod yX15_isSign ∈ W0 := w0_in (List.mem_append_right _ (List.mem_of_getElem? (i := 2019) rfl)) rfl
set_option maxRecDepth 100000 in
theorem m_2020 : Cond.code yX15_isSign cX15_isSign 3 (some .boolean) ∈ W0 := w0_in (List.mem_append_right _ (List.mem_of_getElem? (i := 2020) rfl)) rfl
set_option maxRecDepth 100000 in
theorem m_2030 : Cond.methodLink RX15 165 yX15_manAt ∈ W0 := w0_in (List.mem_append_right _ (List.mem_of_getElem? (i := 2030) rfl)) rfl
set_option maxRecDepth 100000 in
theorem m_2032 : Cond.instanceMethod yX15_manAt ∈ W0 := w0_in (List.mem_append_right _ (List.mem_of_getElem? (i := 2032) rfl)) rfl
set_option maxRecDepth 100000 in
theorem m_2033 : Cond.code yX15_manAt cX15_manAt 2 (some .int) ∈ W0 := w0_in (List.mem_append_right _ (List.mem_of_getElem? (i := 2033) rfl)) rfl
set_option maxRecDepth 100000 in
theorem m_2038 : Cond.methodLink RX15 179 yX15_isStep ∈ W0 := w0_in (List.mem_append_right _ (List.mem_of_getElem? (i := 2038) rfl)) rfl
set_option maxRecDepth 100000 in
theorem m_2040 : Cond.instanceMethod yX15_isStep ∈ W0 := w0_in (List.mem_append_right _ (List.mem_of_getElem? (i := 2040) rfl)) rfl
set_option maxRecDepth 100000 in
theorem m_2041 : Cond.code yX15_isStep cX15_isStep 7 (some .boolean) ∈ W0 := w0_in (List.mem_append_right _ (List.mem_of_getElem? (i := 2041) rfl)) rfl
section
variable {p : Program} {l : Launch} {e : Env} {R : Room} {s : State} {m : MethodId} {args : Array Value} {below : List Frame} {meth : Method} {c : Code} {H : Heap} {locs : List Loc} {cells slots : Nat} {Q : State → Prop}
variable {cc : ByteArray} {pc : Nat} {ls : Array Slot} {rest : List Value} {X : Ec} {h h1 : Hp} {nL : Nat} {rt : Option FieldType} {mn : String}
theorem gf_X15_176 {a r : Nat} (C : Cx X p s m args meth c RX15 cc nL rt mn) (hW : Wx X h H) (ha : hK h a = 14) (hr : hR h a 4 = some r) (hdg : decode cc pc = .ok (.getfield 176, 3)) (kk : hK h r = 17 → W p l e R s m args below meth c H locs cells slots Q (F0 m (pc + 3) ls (.ref r :: rest))) : W p l e R s m args below meth c H locs cells slots Q (F0 m pc ls (.ref a :: rest)) :=
  y_getrN C hW ha i_X14 (by decide) rfl (by decide) n_1813 rfl rfl hr hdg kk
theorem gf_X15_169 {a : Nat} (C : Cx X p s m args meth c RX15 cc nL rt mn) (hW : Wx X h H) (ha : hK h a = 14) (hdg : decode cc pc = .ok (.getfield 169, 3)) (kk : W p l e R s m args below meth c H locs cells slots Q (F0 m (pc + 3) ls (.int (hI h a 2) :: rest))) : W p l e R s m args below meth c H locs cells slots Q (F0 m pc ls (.ref a :: rest)) :=
  y_getiN C hW ha i_X14 (by decide) rfl (by decide) n_1809 rfl hdg kk
theorem gf_X15_172 {a r : Nat} (C : Cx X p s m args meth c RX15 cc nL rt mn) (hW : Wx X h H) (ha : hK h a = 14) (hr : hR h a 3 = some r) (hdg : decode cc pc = .ok (.getfield 172, 3)) (kk : hK h r = 17 → W p l e R s m args below meth c H locs cells slots Q (F0 m (pc + 3) ls (.ref r :: rest))) : W p l e R s m args below meth c H locs cells slots Q (F0 m pc ls (.ref a :: rest)) :=
  y_getrN C hW ha i_X14 (by decide) rfl (by decide) n_1811 rfl rfl hr hdg kk
theorem pf_X15_169 {a : Nat} {v : Int32} (C : Cx X p s m args meth c RX15 cc nL rt mn) (hW : Wx X h H) (hZ : va_S (aA (eB X)) s.heap H locs) (ha : hK h a = 14) (eh : h1 = wI h a 2 v) (hdg : decode cc pc = .ok (.putfield 169, 3)) (kk : ∀ (H1 : Heap) (locs1 : List Loc), Wx X h1 H1 → Km h h1 → va_S (aA (eB X)) s.heap H1 locs1 → W p l e R s m args below meth c H1 locs1 cells slots Q (F0 m (pc + 3) ls rest)) : W p l e R s m args below meth c H locs cells slots Q (F0 m pc ls (.int v :: .ref a :: rest)) :=
  y_putiN (ty := .int) C hW hZ ha i_X14 tyX14 tyX14_ok nmX14 (by decide) rfl rfl (by decide) n_1809 rfl (by decide +kernel) rfl rfl rfl eh hdg kk
end
theorem cw_X15_179 : cwd RX15 179 yX15_isStep cX15_isStep 7 (some .boolean) false 3 := ⟨m_2041, m_2038, m_19, ⟨m_2040, ms_122⟩, by decide, by decide, by decide +kernel⟩
theorem cw_X15_94 : cwd RX15 94 yX15_isSign cX15_isSign 3 (some .boolean) false 2 := ⟨m_2020, m_2017, m_19, ⟨m_2019, ms_118⟩, by decide, by decide, by decide +kernel⟩
theorem cw_X15_165 : cwd RX15 165 yX15_manAt cX15_manAt 2 (some .int) false 1 := ⟨m_2033, m_2030, m_19, ⟨m_2032, ms_121⟩, by decide, by decide, by decide +kernel⟩
theorem dX15_isMan_0 : decode cX15_isMan 0 = .ok (.aload_n 0, 1) := by decide +kernel
theorem dX15_isMan_1 : decode cX15_isMan 1 = .ok (.aload_n 1, 1) := by decide +kernel
theorem dX15_isMan_2 : decode cX15_isMan 2 = .ok (.iload_n 2, 1) := by decide +kernel
theorem dX15_isMan_3 : decode cX15_isMan 3 = .ok (.invokevirtual 74, 3) := by decide +kernel
theorem dX15_isMan_6 : decode cX15_isMan 6 = .ok (.aload_n 0, 1) := by decide +kernel
theorem dX15_isMan_7 : decode cX15_isMan 7 = .ok (.getfield 34, 3) := by decide +kernel
theorem dX15_isMan_10 : decode cX15_isMan 10 = .ok (.iconst 1, 1) := by decide +kernel
theorem dX15_isMan_11 : decode cX15_isMan 11 = .ok (.if_icmp .ne 37, 3) := by decide +kernel
theorem dX15_isMan_14 : decode cX15_isMan 14 = .ok (.aload_n 0, 1) := by decide +kernel
theorem dX15_isMan_15 : decode cX15_isMan 15 = .ok (.getfield 24, 3) := by decide +kernel
theorem dX15_isMan_18 : decode cX15_isMan 18 = .ok (.aload_n 0, 1) := by decide +kernel
theorem dX15_isMan_19 : decode cX15_isMan 19 = .ok (.getfield 27, 3) := by decide +kernel
theorem dX15_isMan_22 : decode cX15_isMan 22 = .ok (.iconst 1, 1) := by decide +kernel
theorem dX15_isMan_23 : decode cX15_isMan 23 = .ok (.iadd, 1) := by decide +kernel
theorem dX15_isMan_24 : decode cX15_isMan 24 = .ok (.if_icmp .ne 24, 3) := by decide +kernel
theorem dX15_isMan_27 : decode cX15_isMan 27 = .ok (.aload_n 0, 1) := by decide +kernel
theorem dX15_isMan_28 : decode cX15_isMan 28 = .ok (.aload_n 1, 1) := by decide +kernel
theorem dX15_isMan_29 : decode cX15_isMan 29 = .ok (.invokevirtual 165, 3) := by decide +kernel
theorem dX15_isMan_32 : decode cX15_isMan 32 = .ok (.iconst (-1), 1) := by decide +kernel
theorem dX15_isMan_33 : decode cX15_isMan 33 = .ok (.if_icmp .ne 15, 3) := by decide +kernel
theorem dX15_isMan_36 : decode cX15_isMan 36 = .ok (.aload_n 0, 1) := by decide +kernel
theorem dX15_isMan_37 : decode cX15_isMan 37 = .ok (.getfield 57, 3) := by decide +kernel
theorem dX15_isMan_40 : decode cX15_isMan 40 = .ok (.getfield 169, 3) := by decide +kernel
theorem dX15_isMan_43 : decode cX15_isMan 43 = .ok (.bipush 12, 2) := by decide +kernel
theorem dX15_isMan_45 : decode cX15_isMan 45 = .ok (.if_icmp .ne 5, 3) := by decide +kernel
theorem dX15_isMan_48 : decode cX15_isMan 48 = .ok (.iconst 0, 1) := by decide +kernel
theorem dX15_isMan_49 : decode cX15_isMan 49 = .ok (.ireturn, 1) := by decide +kernel
theorem dX15_isMan_50 : decode cX15_isMan 50 = .ok (.aload_n 0, 1) := by decide +kernel
theorem dX15_isMan_51 : decode cX15_isMan 51 = .ok (.getfield 57, 3) := by decide +kernel
theorem dX15_isMan_54 : decode cX15_isMan 54 = .ok (.getfield 169, 3) := by decide +kernel
theorem dX15_isMan_57 : decode cX15_isMan 57 = .ok (.istore_n 3, 1) := by decide +kernel
theorem dX15_isMan_58 : decode cX15_isMan 58 = .ok (.aload_n 0, 1) := by decide +kernel
theorem dX15_isMan_59 : decode cX15_isMan 59 = .ok (.getfield 57, 3) := by decide +kernel
theorem dX15_isMan_62 : decode cX15_isMan 62 = .ok (.getfield 172, 3) := by decide +kernel
theorem dX15_isMan_65 : decode cX15_isMan 65 = .ok (.iload_n 3, 1) := by decide +kernel
theorem dX15_isMan_66 : decode cX15_isMan 66 = .ok (.aload_n 1, 1) := by decide +kernel
theorem dX15_isMan_67 : decode cX15_isMan 67 = .ok (.aload_n 0, 1) := by decide +kernel
theorem dX15_isMan_68 : decode cX15_isMan 68 = .ok (.getfield 27, 3) := by decide +kernel
theorem dX15_isMan_71 : decode cX15_isMan 71 = .ok (.baload, 1) := by decide +kernel
theorem dX15_isMan_72 : decode cX15_isMan 72 = .ok (.iastore, 1) := by decide +kernel
theorem dX15_isMan_73 : decode cX15_isMan 73 = .ok (.aload_n 0, 1) := by decide +kernel
theorem dX15_isMan_74 : decode cX15_isMan 74 = .ok (.getfield 57, 3) := by decide +kernel
theorem dX15_isMan_77 : decode cX15_isMan 77 = .ok (.dup, 1) := by decide +kernel
theorem dX15_isMan_78 : decode cX15_isMan 78 = .ok (.getfield 169, 3) := by decide +kernel
theorem dX15_isMan_81 : decode cX15_isMan 81 = .ok (.iconst 1, 1) := by decide +kernel
theorem dX15_isMan_82 : decode cX15_isMan 82 = .ok (.iadd, 1) := by decide +kernel
theorem dX15_isMan_83 : decode cX15_isMan 83 = .ok (.putfield 169, 3) := by decide +kernel
theorem dX15_isMan_86 : decode cX15_isMan 86 = .ok (.aload_n 0, 1) := by decide +kernel
theorem dX15_isMan_87 : decode cX15_isMan 87 = .ok (.aload_n 1, 1) := by decide +kernel
theorem dX15_isMan_88 : decode cX15_isMan 88 = .ok (.iload_n 2, 1) := by decide +kernel
theorem dX15_isMan_89 : decode cX15_isMan 89 = .ok (.invokevirtual 74, 3) := by decide +kernel
theorem dX15_isMan_92 : decode cX15_isMan 92 = .ok (.aload_n 0, 1) := by decide +kernel
theorem dX15_isMan_93 : decode cX15_isMan 93 = .ok (.aload_n 1, 1) := by decide +kernel
theorem dX15_isMan_94 : decode cX15_isMan 94 = .ok (.iload_n 2, 1) := by decide +kernel
theorem dX15_isMan_95 : decode cX15_isMan 95 = .ok (.bipush 8, 2) := by decide +kernel
theorem dX15_isMan_97 : decode cX15_isMan 97 = .ok (.iload_n 3, 1) := by decide +kernel
theorem dX15_isMan_98 : decode cX15_isMan 98 = .ok (.imul, 1) := by decide +kernel
theorem dX15_isMan_99 : decode cX15_isMan 99 = .ok (.aload_n 0, 1) := by decide +kernel
theorem dX15_isMan_100 : decode cX15_isMan 100 = .ok (.getfield 57, 3) := by decide +kernel
theorem dX15_isMan_103 : decode cX15_isMan 103 = .ok (.getfield 176, 3) := by decide +kernel
theorem dX15_isMan_106 : decode cX15_isMan 106 = .ok (.iload_n 3, 1) := by decide +kernel
theorem dX15_isMan_107 : decode cX15_isMan 107 = .ok (.iaload, 1) := by decide +kernel
theorem dX15_isMan_108 : decode cX15_isMan 108 = .ok (.iadd, 1) := by decide +kernel
theorem dX15_isMan_109 : decode cX15_isMan 109 = .ok (.invokevirtual 179, 3) := by decide +kernel
theorem dX15_isMan_112 : decode cX15_isMan 112 = .ok (.ifCond .ne 5, 3) := by decide +kernel
theorem dX15_isMan_115 : decode cX15_isMan 115 = .ok (.iconst 0, 1) := by decide +kernel
theorem dX15_isMan_116 : decode cX15_isMan 116 = .ok (.ireturn, 1) := by decide +kernel
theorem dX15_isMan_117 : decode cX15_isMan 117 = .ok (.aload_n 0, 1) := by decide +kernel
theorem dX15_isMan_118 : decode cX15_isMan 118 = .ok (.getfield 57, 3) := by decide +kernel
theorem dX15_isMan_121 : decode cX15_isMan 121 = .ok (.getfield 176, 3) := by decide +kernel
theorem dX15_isMan_124 : decode cX15_isMan 124 = .ok (.iload_n 3, 1) := by decide +kernel
theorem dX15_isMan_125 : decode cX15_isMan 125 = .ok (.dup2, 1) := by decide +kernel
theorem dX15_isMan_126 : decode cX15_isMan 126 = .ok (.iaload, 1) := by decide +kernel
theorem dX15_isMan_127 : decode cX15_isMan 127 = .ok (.iconst 1, 1) := by decide +kernel
theorem dX15_isMan_128 : decode cX15_isMan 128 = .ok (.iadd, 1) := by decide +kernel
theorem dX15_isMan_129 : decode cX15_isMan 129 = .ok (.iastore, 1) := by decide +kernel
theorem dX15_isMan_130 : decode cX15_isMan 130 = .ok (.aload_n 0, 1) := by decide +kernel
theorem dX15_isMan_131 : decode cX15_isMan 131 = .ok (.aload_n 1, 1) := by decide +kernel
theorem dX15_isMan_132 : decode cX15_isMan 132 = .ok (.bipush 44, 2) := by decide +kernel
theorem dX15_isMan_134 : decode cX15_isMan 134 = .ok (.invokevirtual 94, 3) := by decide +kernel
theorem dX15_isMan_137 : decode cX15_isMan 137 = .ok (.ifCond .eq 17, 3) := by decide +kernel
theorem dX15_isMan_140 : decode cX15_isMan 140 = .ok (.aload_n 0, 1) := by decide +kernel
theorem dX15_isMan_141 : decode cX15_isMan 141 = .ok (.getfield 57, 3) := by decide +kernel
theorem dX15_isMan_144 : decode cX15_isMan 144 = .ok (.getfield 176, 3) := by decide +kernel
theorem dX15_isMan_147 : decode cX15_isMan 147 = .ok (.iload_n 3, 1) := by decide +kernel
theorem dX15_isMan_148 : decode cX15_isMan 148 = .ok (.iaload, 1) := by decide +kernel
theorem dX15_isMan_149 : decode cX15_isMan 149 = .ok (.bipush 8, 2) := by decide +kernel
theorem dX15_isMan_151 : decode cX15_isMan 151 = .ok (.if_icmp .ne 5, 3) := by decide +kernel
theorem dX15_isMan_154 : decode cX15_isMan 154 = .ok (.iconst 1, 1) := by decide +kernel
theorem dX15_isMan_155 : decode cX15_isMan 155 = .ok (.ireturn, 1) := by decide +kernel
theorem dX15_isMan_156 : decode cX15_isMan 156 = .ok (.aload_n 0, 1) := by decide +kernel
theorem dX15_isMan_157 : decode cX15_isMan 157 = .ok (.aload_n 1, 1) := by decide +kernel
theorem dX15_isMan_158 : decode cX15_isMan 158 = .ok (.iload_n 2, 1) := by decide +kernel
theorem dX15_isMan_159 : decode cX15_isMan 159 = .ok (.invokevirtual 74, 3) := by decide +kernel
theorem dX15_isMan_162 : decode cX15_isMan 162 = .ok (.goto (-70), 3) := by decide +kernel
def sX15_isMan_48 (F : Nat) (h : Hp) : Option (Int32 × Hp) := some ((0 : Int32), h)
def sX15_isMan_154 (F : Nat) (h : Hp) : Option (Int32 × Hp) := some ((1 : Int32), h)
def sX15_isMan_92 (F : Nat) : Nat → Hp → Nat → Nat → Int32 → Int32 → Option (Int32 × Hp)
  | 0, _, _, _, _, _ => none
  | f + 1, h, x0, x1, x2, x3 => cl (hR h x0 5) fun r_1 => cl (hR h r_1 4) fun r_2 => gd (inB x3 (hN h r_2)) <| cl (sX15_isStep F h x0 x1 x2 (((8 : Int32) * x3) + (hI h r_2 x3.toNatClampNeg))) fun o_4 => br (o_4.1 = 0) (some ((0 : Int32), o_4.2)) (cl (hR o_4.2 x0 5) fun r_6 => cl (hR o_4.2 r_6 4) fun r_7 => gd (inB x3 (hN o_4.2 r_7)) <| gd (inB x3 (hN o_4.2 r_7)) <| nm (wI o_4.2 r_7 x3.toNatClampNeg ((hI o_4.2 r_7 x3.toNatClampNeg) + (1 : Int32))) fun h_10 => cl (sX15_isSign h_10 x0 x1 (44 : Int32)) fun o_11 => br (o_11.1 = 0) (sX15_isMan_154 F o_11.2 ) (cl (hR o_11.2 x0 5) fun r_13 => cl (hR o_11.2 r_13 4) fun r_14 => gd (inB x3 (hN o_11.2 r_14)) <| br ((hI o_11.2 r_14 x3.toNatClampNeg) = (8 : Int32)) (sX15_isMan_154 F o_11.2 ) (cl (sX15_nextToken F o_11.2 x0 x1 x2) fun o_17 => sX15_isMan_92 F f o_17 x0 x1 x2 x3)))
def sX15_isMan (F : Nat) (h : Hp) (x0 : Nat) (x1 : Nat) (x2 : Int32) : Option (Int32 × Hp) := cl (sX15_nextToken F h x0 x1 x2) fun o_1 => br ((hI o_1 x0 6) = (1 : Int32)) (br ((hI o_1 x0 8) = ((hI o_1 x0 7) + (1 : Int32))) (cl (sX15_manAt F o_1 x0 x1) fun o_4 => br (o_4.1 = (-1 : Int32)) (cl (hR o_4.2 x0 5) fun r_6 => br ((hI o_4.2 r_6 2) = (12 : Int32)) (sX15_isMan_48 F o_4.2 ) (cl (hR o_4.2 x0 5) fun r_8 => nm (hI o_4.2 r_8 2) fun v_9 => cl (hR o_4.2 x0 5) fun r_10 => cl (hR o_4.2 r_10 3) fun r_11 => gd (inB (hI o_4.2 x0 7) (hN o_4.2 x1)) <| gd (inB v_9 (hN o_4.2 r_11)) <| nm (wI o_4.2 r_11 v_9.toNatClampNeg (hI o_4.2 x1 (hI o_4.2 x0 7).toNatClampNeg)) fun h_14 => cl (hR h_14 x0 5) fun r_15 => nm (wI h_14 r_15 2 ((hI h_14 r_15 2) + (1 : Int32))) fun h_16 => cl (sX15_nextToken F h_16 x0 x1 x2) fun o_17 => sX15_isMan_92 F F o_17 x0 x1 x2 v_9)) (sX15_isMan_48 F o_4.2 )) (sX15_isMan_48 F o_1 )) (sX15_isMan_48 F o_1 )
set_option maxRecDepth 20000 in
theorem moX15_isMan_48 {o : Int32 × Hp} {F : Nat} {h : Hp} (hE : sX15_isMan_48 F h  = some o) : Le h o.2 := by
  exact le_some2 hE
set_option maxRecDepth 20000 in
theorem moX15_isMan_154 {o : Int32 × Hp} {F : Nat} {h : Hp} (hE : sX15_isMan_154 F h  = some o) : Le h o.2 := by
  exact le_some2 hE
set_option maxRecDepth 20000 in
theorem moX15_isMan_92 {o : Int32 × Hp} {F : Nat} : ∀ (f : Nat) {h : Hp} {x0 : Nat} {x1 : Nat} {x2 : Int32} {x3 : Int32}, sX15_isMan_92 F f h x0 x1 x2 x3 = some o → Le h o.2 := by
  intro f
  induction f with
  | zero =>
    intro h x0 x1 x2 x3 hE
    rw [sX15_isMan_92] at hE
    cases hE
  | succ f ih =>
    intro h x0 x1 x2 x3 hE
    rw [sX15_isMan_92] at hE
    have mk_92 : ∀ (h : Hp) (x0 : Nat) (x1 : Nat) (x2 : Int32) (x3 : Int32), sX15_isMan_92 F f h x0 x1 x2 x3 = some o → Le h o.2 := fun h x0 x1 x2 x3 hE => ih hE
    obtain ⟨r_1, er_1, hE⟩ := cl_e hE
    obtain ⟨r_2, er_2, hE⟩ := cl_e hE
    obtain ⟨g_3, hE⟩ := gd_e hE
    obtain ⟨o_4, eo_4, hE⟩ := cl_e hE
    refine (moX15_isStep eo_4).tr ?_
    rcases br_e hE with ⟨_, hE⟩ | ⟨_, hE⟩
    · exact le_some2 hE
    · obtain ⟨r_6, er_6, hE⟩ := cl_e hE
      obtain ⟨r_7, er_7, hE⟩ := cl_e hE
      obtain ⟨g_8, hE⟩ := gd_e hE
      obtain ⟨g_9, hE⟩ := gd_e hE
      obtain ⟨h_10, eh_10, hE⟩ := nm_e2 hE
      refine (le_I eh_10).tr ?_
      obtain ⟨o_11, eo_11, hE⟩ := cl_e hE
      refine (moX15_isSign eo_11).tr ?_
      rcases br_e hE with ⟨_, hE⟩ | ⟨_, hE⟩
      · exact moX15_isMan_154 hE
      · obtain ⟨r_13, er_13, hE⟩ := cl_e hE
        obtain ⟨r_14, er_14, hE⟩ := cl_e hE
        obtain ⟨g_15, hE⟩ := gd_e hE
        rcases br_e hE with ⟨_, hE⟩ | ⟨_, hE⟩
        · exact moX15_isMan_154 hE
        · obtain ⟨o_17, eo_17, hE⟩ := cl_e hE
          refine (moX15_nextToken eo_17).tr ?_
          exact mk_92 _ _ _ _ _ hE
set_option maxRecDepth 20000 in
theorem moX15_isMan {o : Int32 × Hp} {F : Nat} {h : Hp} {x0 : Nat} {x1 : Nat} {x2 : Int32} (hE : sX15_isMan F h x0 x1 x2 = some o) : Le h o.2 := by
  obtain ⟨o_1, eo_1, hE⟩ := cl_e hE
  refine (moX15_nextToken eo_1).tr ?_
  rcases br_e hE with ⟨_, hE⟩ | ⟨_, hE⟩
  · rcases br_e hE with ⟨_, hE⟩ | ⟨_, hE⟩
    · obtain ⟨o_4, eo_4, hE⟩ := cl_e hE
      refine (moX15_manAt eo_4).tr ?_
      rcases br_e hE with ⟨_, hE⟩ | ⟨_, hE⟩
      · obtain ⟨r_6, er_6, hE⟩ := cl_e hE
        rcases br_e hE with ⟨_, hE⟩ | ⟨_, hE⟩
        · exact moX15_isMan_48 hE
        · obtain ⟨r_8, er_8, hE⟩ := cl_e hE
          obtain ⟨v_9, ev_9, hE⟩ := nm_e2 hE
          obtain ⟨r_10, er_10, hE⟩ := cl_e hE
          obtain ⟨r_11, er_11, hE⟩ := cl_e hE
          obtain ⟨g_12, hE⟩ := gd_e hE
          obtain ⟨g_13, hE⟩ := gd_e hE
          obtain ⟨h_14, eh_14, hE⟩ := nm_e2 hE
          refine (le_I eh_14).tr ?_
          obtain ⟨r_15, er_15, hE⟩ := cl_e hE
          obtain ⟨h_16, eh_16, hE⟩ := nm_e2 hE
          refine (le_I eh_16).tr ?_
          obtain ⟨o_17, eo_17, hE⟩ := cl_e hE
          refine (moX15_nextToken eo_17).tr ?_
          exact moX15_isMan_92 _ hE
      · exact moX15_isMan_48 hE
    · exact moX15_isMan_48 hE
  · exact moX15_isMan_48 hE
set_option maxRecDepth 20000 in
theorem bX15_isMan_48 {p : Program} {l : Launch} {e : Env} {s : State} {m : MethodId} {args : Array Value} {below : List Frame} {meth : Method} {c : Code} {X : Ec} {h0 : Hp} {o : Int32 × Hp} {F : Nat} (C : Cx X p s m args meth c RX15 cX15_isMan 4 (some .boolean) "isMan") {h : Hp} {H : Heap} {locs : List Loc} (hkm : Km h0 h) (hW : Wx X h H) (hZ : va_S (aA (eB X)) s.heap H locs) (ls : Array Slot) (hl : lv_has ls 4 []) (hE : sX15_isMan_48 F h  = some o) : W p l e (rm 7 155) s m args below meth c H locs 0 0 (MQ below (QI X h0 o.1 o.2) args s 0 0 (aA (eB X))) (F0 m 48 ls []) := by
  refine lv_iconst (v := (0 : Int32)) C.1 C.2.1 dX15_isMan_48 (by decide) ?_
  exact x_iret C rfl (by decide) hW hZ hkm hE dX15_isMan_49
set_option maxRecDepth 20000 in
theorem bX15_isMan_154 {p : Program} {l : Launch} {e : Env} {s : State} {m : MethodId} {args : Array Value} {below : List Frame} {meth : Method} {c : Code} {X : Ec} {h0 : Hp} {o : Int32 × Hp} {F : Nat} (C : Cx X p s m args meth c RX15 cX15_isMan 4 (some .boolean) "isMan") {h : Hp} {H : Heap} {locs : List Loc} (hkm : Km h0 h) (hW : Wx X h H) (hZ : va_S (aA (eB X)) s.heap H locs) (ls : Array Slot) (hl : lv_has ls 4 []) (hE : sX15_isMan_154 F h  = some o) : W p l e (rm 7 155) s m args below meth c H locs 0 0 (MQ below (QI X h0 o.1 o.2) args s 0 0 (aA (eB X))) (F0 m 154 ls []) := by
  refine lv_iconst (v := (1 : Int32)) C.1 C.2.1 dX15_isMan_154 (by decide) ?_
  exact x_iret C rfl (by decide) hW hZ hkm hE dX15_isMan_155
set_option maxRecDepth 20000 in
theorem bX15_isMan_92 {p : Program} {l : Launch} {e : Env} {s : State} {m : MethodId} {args : Array Value} {below : List Frame} {meth : Method} {c : Code} {X : Ec} {h0 : Hp} {o : Int32 × Hp} {F : Nat} (C : Cx X p s m args meth c RX15 cX15_isMan 4 (some .boolean) "isMan") : ∀ (f : Nat) {h : Hp} {x0 : Nat} {x1 : Nat} {x2 : Int32} {x3 : Int32} {H : Heap} {locs : List Loc} (k_x0 : hK h x0 = 15) (k_x1 : hK h x1 = 16), Km h0 h → Wx X h H → va_S (aA (eB X)) s.heap H locs → ∀ (ls : Array Slot), lv_has ls 4 [(0, .ref x0), (1, .ref x1), (2, .int x2), (3, .int x3)] → sX15_isMan_92 F f h x0 x1 x2 x3 = some o → W p l e (rm 7 155) s m args below meth c H locs 0 0 (MQ below (QI X h0 o.1 o.2) args s 0 0 (aA (eB X))) (F0 m 92 ls []) := by
  intro f
  induction f with
  | zero =>
    intro h x0 x1 x2 x3 H locs k_x0 k_x1 hkm hW hZ ls hl hE
    rw [sX15_isMan_92] at hE
    cases hE
  | succ f ih =>
    intro h x0 x1 x2 x3 H locs k_x0 k_x1 hkm hW hZ ls hl hE
    rw [sX15_isMan_92] at hE
    have hk_92 : ∀ (h : Hp) (x0 : Nat) (x1 : Nat) (x2 : Int32) (x3 : Int32) (H : Heap) (locs : List Loc), hK h x0 = 15 → hK h x1 = 16 → Km h0 h → Wx X h H → va_S (aA (eB X)) s.heap H locs → ∀ (ls : Array Slot), lv_has ls 4 [(0, .ref x0), (1, .ref x1), (2, .int x2), (3, .int x3)] → sX15_isMan_92 F f h x0 x1 x2 x3 = some o → W p l e (rm 7 155) s m args below meth c H locs 0 0 (MQ below (QI X h0 o.1 o.2) args s 0 0 (aA (eB X))) (F0 m 92 ls []) := fun h x0 x1 x2 x3 H locs k_x0 k_x1 a b c ls hl hE => ih k_x0 k_x1 a b c ls hl hE
    refine lv_aload_n C.1 C.2.1 dX15_isMan_92 rfl (lv_at hl 0 rfl) ?_
    refine lv_aload_n C.1 C.2.1 dX15_isMan_93 rfl (lv_at hl 1 rfl) ?_
    refine lv_iload_n C.1 C.2.1 dX15_isMan_94 rfl (lv_at hl 2 rfl) ?_
    refine lv_bipush (v := (8 : Int32)) C.1 C.2.1 dX15_isMan_95 (by decide) ?_
    refine lv_iload_n C.1 C.2.1 dX15_isMan_97 rfl (lv_at hl 3 rfl) ?_
    refine lv_imul C.1 C.2.1 dX15_isMan_98 ?_
    refine lv_aload_n C.1 C.2.1 dX15_isMan_99 rfl (lv_at hl 0 rfl) ?_
    obtain ⟨r_1, er_1, hE⟩ := cl_e hE
    refine gf_X15_57 C hW k_x0 er_1 dX15_isMan_100 (fun k_r_1 => ?_)
    obtain ⟨r_2, er_2, hE⟩ := cl_e hE
    refine gf_X15_176 C hW k_r_1 er_2 dX15_isMan_103 (fun k_r_2 => ?_)
    refine lv_iload_n C.1 C.2.1 dX15_isMan_106 rfl (lv_at hl 3 rfl) ?_
    obtain ⟨g_3, hE⟩ := gd_e hE
    refine y_iald C hW k_r_2 g_3 dX15_isMan_107 ?_
    refine lv_iadd C.1 C.2.1 dX15_isMan_108 ?_
    obtain ⟨o_4, eo_4, hE⟩ := cl_e hE
    refine x_kI (o := o_4) (z_runV (As := [.ref x1, .int x2, .int (((8 : Int32) * x3) + (hI h r_2 x3.toNatClampNeg))]) (rest := []) C (ct_X15_isStep l X F k_x0 k_x1 eo_4) cw_X15_179 hW hZ k_x0 (by decide) rfl rfl rfl hl.1 (Nat.le_of_ble_eq_true rfl) rfl dX15_isMan_109 ⟨Nat.le_of_ble_eq_true rfl, Nat.le_of_ble_eq_true rfl⟩ ⟨Nat.le_refl _, Nat.le_refl _⟩) hZ (fun _ _ hW km hZ => ?_)
    replace hkm := hkm.tr km
    replace k_x0 := km.at k_x0 (by decide)
    replace k_x1 := km.at k_x1 (by decide)
    refine lv_if_ne (tgt := 117) C.1 C.2.1 dX15_isMan_112 (by decide) (fun c_5 => ?_) (fun c_5 => ?_)
    · have hE := br_n hE c_5
      refine lv_aload_n C.1 C.2.1 dX15_isMan_117 rfl (lv_at hl 0 rfl) ?_
      obtain ⟨r_6, er_6, hE⟩ := cl_e hE
      refine gf_X15_57 C hW k_x0 er_6 dX15_isMan_118 (fun k_r_6 => ?_)
      obtain ⟨r_7, er_7, hE⟩ := cl_e hE
      refine gf_X15_176 C hW k_r_6 er_7 dX15_isMan_121 (fun k_r_7 => ?_)
      refine lv_iload_n C.1 C.2.1 dX15_isMan_124 rfl (lv_at hl 3 rfl) ?_
      refine lv_dup2_11 C.1 C.2.1 dX15_isMan_125 rfl rfl ?_
      obtain ⟨g_8, hE⟩ := gd_e hE
      refine y_iald C hW k_r_7 g_8 dX15_isMan_126 ?_
      refine lv_iconst (v := (1 : Int32)) C.1 C.2.1 dX15_isMan_127 (by decide) ?_
      refine lv_iadd C.1 C.2.1 dX15_isMan_128 ?_
      obtain ⟨g_9, hE⟩ := gd_e hE
      obtain ⟨h_10, eh_10, hE⟩ := nm_e2 hE
      refine y_iast C hW hZ k_r_7 g_9 eh_10 dX15_isMan_129 (fun _ _ hW km hZ => ?_)
      replace hkm := hkm.tr km
      replace k_x0 := km.at k_x0 (by decide)
      replace k_x1 := km.at k_x1 (by decide)
      refine lv_aload_n C.1 C.2.1 dX15_isMan_130 rfl (lv_at hl 0 rfl) ?_
      refine lv_aload_n C.1 C.2.1 dX15_isMan_131 rfl (lv_at hl 1 rfl) ?_
      refine lv_bipush (v := (44 : Int32)) C.1 C.2.1 dX15_isMan_132 (by decide) ?_
      obtain ⟨o_11, eo_11, hE⟩ := cl_e hE
      refine x_kI (o := o_11) (z_runV (As := [.ref x1, .int (44 : Int32)]) (rest := []) C (ct_X15_isSign l X k_x0 k_x1 eo_11) cw_X15_94 hW hZ k_x0 (by decide) rfl rfl rfl hl.1 (Nat.le_of_ble_eq_true rfl) rfl dX15_isMan_134 ⟨Nat.le_of_ble_eq_true rfl, Nat.le_of_ble_eq_true rfl⟩ ⟨Nat.le_refl _, Nat.le_refl _⟩) hZ (fun _ _ hW km hZ => ?_)
      replace hkm := hkm.tr km
      replace k_x0 := km.at k_x0 (by decide)
      replace k_x1 := km.at k_x1 (by decide)
      refine lv_if_eq (tgt := 154) C.1 C.2.1 dX15_isMan_137 (by decide) (fun c_12 => ?_) (fun c_12 => ?_)
      · have hE := br_p hE c_12
        exact bX15_isMan_154 C hkm hW hZ _ (lv_sub hl [] rfl) hE
      · have hE := br_n hE c_12
        refine lv_aload_n C.1 C.2.1 dX15_isMan_140 rfl (lv_at hl 0 rfl) ?_
        obtain ⟨r_13, er_13, hE⟩ := cl_e hE
        refine gf_X15_57 C hW k_x0 er_13 dX15_isMan_141 (fun k_r_13 => ?_)
        obtain ⟨r_14, er_14, hE⟩ := cl_e hE
        refine gf_X15_176 C hW k_r_13 er_14 dX15_isMan_144 (fun k_r_14 => ?_)
        refine lv_iload_n C.1 C.2.1 dX15_isMan_147 rfl (lv_at hl 3 rfl) ?_
        obtain ⟨g_15, hE⟩ := gd_e hE
        refine y_iald C hW k_r_14 g_15 dX15_isMan_148 ?_
        refine lv_bipush (v := (8 : Int32)) C.1 C.2.1 dX15_isMan_149 (by decide) ?_
        refine lv_icmp_ne (tgt := 156) C.1 C.2.1 dX15_isMan_151 (by decide) (fun c_16 => ?_) (fun c_16 => ?_)
        · have hE := br_n hE c_16
          refine lv_aload_n C.1 C.2.1 dX15_isMan_156 rfl (lv_at hl 0 rfl) ?_
          refine lv_aload_n C.1 C.2.1 dX15_isMan_157 rfl (lv_at hl 1 rfl) ?_
          refine lv_iload_n C.1 C.2.1 dX15_isMan_158 rfl (lv_at hl 2 rfl) ?_
          obtain ⟨o_17, eo_17, hE⟩ := cl_e hE
          refine x_kV (o := o_17) (z_runV (As := [.ref x1, .int x2]) (rest := []) C (ct_X15_nextToken l X F k_x0 k_x1 eo_17) cw_X15_74 hW hZ k_x0 (by decide) rfl rfl rfl hl.1 (Nat.le_of_ble_eq_true rfl) rfl dX15_isMan_159 ⟨Nat.le_of_ble_eq_true rfl, Nat.le_of_ble_eq_true rfl⟩ ⟨Nat.le_refl _, Nat.le_refl _⟩) hZ (fun _ _ hW km hZ => ?_)
          replace hkm := hkm.tr km
          replace k_x0 := km.at k_x0 (by decide)
          replace k_x1 := km.at k_x1 (by decide)
          refine lv_goto (tgt := 92) C.1 C.2.1 dX15_isMan_162 (by decide) ?_
          exact hk_92 _ _ _ _ _ _ _ k_x0 k_x1 hkm hW hZ _ (lv_sub hl [0, 1, 2, 3] rfl) hE
        · have hE := br_p hE c_16
          exact bX15_isMan_154 C hkm hW hZ _ (lv_sub hl [] rfl) hE
    · have hE := br_p hE c_5
      refine lv_iconst (v := (0 : Int32)) C.1 C.2.1 dX15_isMan_115 (by decide) ?_
      exact x_iret C rfl (by decide) hW hZ hkm hE dX15_isMan_116
set_option maxRecDepth 20000 in
theorem ct_X15_isMan (l : Launch) (X : Ec) (F : Nat) {h : Hp} {x0 : Nat} {x1 : Nat} {x2 : Int32} {o : Int32 × Hp} (k_x0 : hK h x0 = 15) (k_x1 : hK h x1 = 16) (hE : sX15_isMan F h x0 x1 x2 = some o) : MetI l yX15_isMan cX15_isMan 4 (some .boolean) 7 155 X [.ref x0, .ref x1, .int x2] h o := by
  refine x_met (by decide) (Nat.le_of_ble_eq_true rfl) ?_
  intro p e s m below meth c ls C hl hW hZ
  have hl : lv_has ls 4 [(0, .ref x0), (1, .ref x1), (2, .int x2)] := hl
  have hkm : Km h h := Km.rf h
  refine lv_aload_n C.1 C.2.1 dX15_isMan_0 rfl (lv_at hl 0 rfl) ?_
  refine lv_aload_n C.1 C.2.1 dX15_isMan_1 rfl (lv_at hl 1 rfl) ?_
  refine lv_iload_n C.1 C.2.1 dX15_isMan_2 rfl (lv_at hl 2 rfl) ?_
  obtain ⟨o_1, eo_1, hE⟩ := cl_e hE
  refine x_kV (o := o_1) (z_runV (As := [.ref x1, .int x2]) (rest := []) C (ct_X15_nextToken l X F k_x0 k_x1 eo_1) cw_X15_74 hW hZ k_x0 (by decide) rfl rfl rfl hl.1 (Nat.le_of_ble_eq_true rfl) rfl dX15_isMan_3 ⟨Nat.le_of_ble_eq_true rfl, Nat.le_of_ble_eq_true rfl⟩ ⟨Nat.le_refl _, Nat.le_refl _⟩) hZ (fun _ _ hW km hZ => ?_)
  replace hkm := hkm.tr km
  replace k_x0 := km.at k_x0 (by decide)
  replace k_x1 := km.at k_x1 (by decide)
  refine lv_aload_n C.1 C.2.1 dX15_isMan_6 rfl (lv_at hl 0 rfl) ?_
  refine gf_X15_34 C hW k_x0 dX15_isMan_7 ?_
  refine lv_iconst (v := (1 : Int32)) C.1 C.2.1 dX15_isMan_10 (by decide) ?_
  refine lv_icmp_ne (tgt := 48) C.1 C.2.1 dX15_isMan_11 (by decide) (fun c_2 => ?_) (fun c_2 => ?_)
  · have hE := br_n hE c_2
    exact bX15_isMan_48 C hkm hW hZ _ (lv_sub hl [] rfl) hE
  · have hE := br_p hE c_2
    refine lv_aload_n C.1 C.2.1 dX15_isMan_14 rfl (lv_at hl 0 rfl) ?_
    refine gf_X15_24 C hW k_x0 dX15_isMan_15 ?_
    refine lv_aload_n C.1 C.2.1 dX15_isMan_18 rfl (lv_at hl 0 rfl) ?_
    refine gf_X15_27 C hW k_x0 dX15_isMan_19 ?_
    refine lv_iconst (v := (1 : Int32)) C.1 C.2.1 dX15_isMan_22 (by decide) ?_
    refine lv_iadd C.1 C.2.1 dX15_isMan_23 ?_
    refine lv_icmp_ne (tgt := 48) C.1 C.2.1 dX15_isMan_24 (by decide) (fun c_3 => ?_) (fun c_3 => ?_)
    · have hE := br_n hE c_3
      exact bX15_isMan_48 C hkm hW hZ _ (lv_sub hl [] rfl) hE
    · have hE := br_p hE c_3
      refine lv_aload_n C.1 C.2.1 dX15_isMan_27 rfl (lv_at hl 0 rfl) ?_
      refine lv_aload_n C.1 C.2.1 dX15_isMan_28 rfl (lv_at hl 1 rfl) ?_
      obtain ⟨o_4, eo_4, hE⟩ := cl_e hE
      refine x_kI (o := o_4) (z_runV (As := [.ref x1]) (rest := []) C (ct_X15_manAt l X F k_x0 k_x1 eo_4) cw_X15_165 hW hZ k_x0 (by decide) rfl rfl rfl hl.1 (Nat.le_of_ble_eq_true rfl) rfl dX15_isMan_29 ⟨Nat.le_of_ble_eq_true rfl, Nat.le_of_ble_eq_true rfl⟩ ⟨Nat.le_refl _, Nat.le_refl _⟩) hZ (fun _ _ hW km hZ => ?_)
      replace hkm := hkm.tr km
      replace k_x0 := km.at k_x0 (by decide)
      replace k_x1 := km.at k_x1 (by decide)
      refine lv_iconst (v := (-1 : Int32)) C.1 C.2.1 dX15_isMan_32 (by decide) ?_
      refine lv_icmp_ne (tgt := 48) C.1 C.2.1 dX15_isMan_33 (by decide) (fun c_5 => ?_) (fun c_5 => ?_)
      · have hE := br_n hE c_5
        exact bX15_isMan_48 C hkm hW hZ _ (lv_sub hl [] rfl) hE
      · have hE := br_p hE c_5
        refine lv_aload_n C.1 C.2.1 dX15_isMan_36 rfl (lv_at hl 0 rfl) ?_
        obtain ⟨r_6, er_6, hE⟩ := cl_e hE
        refine gf_X15_57 C hW k_x0 er_6 dX15_isMan_37 (fun k_r_6 => ?_)
        refine gf_X15_169 C hW k_r_6 dX15_isMan_40 ?_
        refine lv_bipush (v := (12 : Int32)) C.1 C.2.1 dX15_isMan_43 (by decide) ?_
        refine lv_icmp_ne (tgt := 50) C.1 C.2.1 dX15_isMan_45 (by decide) (fun c_7 => ?_) (fun c_7 => ?_)
        · have hE := br_n hE c_7
          refine lv_aload_n C.1 C.2.1 dX15_isMan_50 rfl (lv_at hl 0 rfl) ?_
          obtain ⟨r_8, er_8, hE⟩ := cl_e hE
          refine gf_X15_57 C hW k_x0 er_8 dX15_isMan_51 (fun k_r_8 => ?_)
          refine gf_X15_169 C hW k_r_8 dX15_isMan_54 ?_
          obtain ⟨v_9, ev_9, hE⟩ := nm_e2 hE
          refine x_nmI ev_9 ?_
          refine lv_istore_n (lv' := [(3, .int v_9), (0, .ref x0), (1, .ref x1), (2, .int x2)]) C.1 C.2.1 dX15_isMan_57 rfl hl (by decide) rfl (fun ls hl => ?_)
          refine lv_aload_n C.1 C.2.1 dX15_isMan_58 rfl (lv_at hl 1 rfl) ?_
          obtain ⟨r_10, er_10, hE⟩ := cl_e hE
          refine gf_X15_57 C hW k_x0 er_10 dX15_isMan_59 (fun k_r_10 => ?_)
          obtain ⟨r_11, er_11, hE⟩ := cl_e hE
          refine gf_X15_172 C hW k_r_10 er_11 dX15_isMan_62 (fun k_r_11 => ?_)
          refine lv_iload_n C.1 C.2.1 dX15_isMan_65 rfl (lv_at hl 0 rfl) ?_
          refine lv_aload_n C.1 C.2.1 dX15_isMan_66 rfl (lv_at hl 2 rfl) ?_
          refine lv_aload_n C.1 C.2.1 dX15_isMan_67 rfl (lv_at hl 1 rfl) ?_
          refine gf_X15_27 C hW k_x0 dX15_isMan_68 ?_
          obtain ⟨g_12, hE⟩ := gd_e hE
          refine y_bald C hW k_x1 g_12 dX15_isMan_71 ?_
          obtain ⟨g_13, hE⟩ := gd_e hE
          obtain ⟨h_14, eh_14, hE⟩ := nm_e2 hE
          refine y_iast C hW hZ k_r_11 g_13 eh_14 dX15_isMan_72 (fun _ _ hW km hZ => ?_)
          replace hkm := hkm.tr km
          replace k_x0 := km.at k_x0 (by decide)
          replace k_x1 := km.at k_x1 (by decide)
          refine lv_aload_n C.1 C.2.1 dX15_isMan_73 rfl (lv_at hl 1 rfl) ?_
          obtain ⟨r_15, er_15, hE⟩ := cl_e hE
          refine gf_X15_57 C hW k_x0 er_15 dX15_isMan_74 (fun k_r_15 => ?_)
          refine lv_dup C.1 C.2.1 dX15_isMan_77 rfl ?_
          refine gf_X15_169 C hW k_r_15 dX15_isMan_78 ?_
          refine lv_iconst (v := (1 : Int32)) C.1 C.2.1 dX15_isMan_81 (by decide) ?_
          refine lv_iadd C.1 C.2.1 dX15_isMan_82 ?_
          obtain ⟨h_16, eh_16, hE⟩ := nm_e2 hE
          refine pf_X15_169 C hW hZ k_r_15 eh_16 dX15_isMan_83 (fun _ _ hW km hZ => ?_)
          replace hkm := hkm.tr km
          replace k_x0 := km.at k_x0 (by decide)
          replace k_x1 := km.at k_x1 (by decide)
          refine lv_aload_n C.1 C.2.1 dX15_isMan_86 rfl (lv_at hl 1 rfl) ?_
          refine lv_aload_n C.1 C.2.1 dX15_isMan_87 rfl (lv_at hl 2 rfl) ?_
          refine lv_iload_n C.1 C.2.1 dX15_isMan_88 rfl (lv_at hl 3 rfl) ?_
          obtain ⟨o_17, eo_17, hE⟩ := cl_e hE
          refine x_kV (o := o_17) (z_runV (As := [.ref x1, .int x2]) (rest := []) C (ct_X15_nextToken l X F k_x0 k_x1 eo_17) cw_X15_74 hW hZ k_x0 (by decide) rfl rfl rfl hl.1 (Nat.le_of_ble_eq_true rfl) rfl dX15_isMan_89 ⟨Nat.le_of_ble_eq_true rfl, Nat.le_of_ble_eq_true rfl⟩ ⟨Nat.le_refl _, Nat.le_refl _⟩) hZ (fun _ _ hW km hZ => ?_)
          replace hkm := hkm.tr km
          replace k_x0 := km.at k_x0 (by decide)
          replace k_x1 := km.at k_x1 (by decide)
          exact bX15_isMan_92 C F k_x0 k_x1 hkm hW hZ _ (lv_sub hl [1, 2, 3, 0] rfl) hE
        · have hE := br_p hE c_7
          exact bX15_isMan_48 C hkm hW hZ _ (lv_sub hl [] rfl) hE
set_option maxRecDepth 100000 in
theorem n_1825 : Cond.fieldLinkNest RX15 221 (TX14 10).1 (TX14 10).2.1 (TX14 10).2.2.1 "GameRulesModel" ∈ tables_1 := List.mem_of_getElem? (i := 1825) rfl
set_option maxRecDepth 100000 in
theorem n_1827 : Cond.fieldLinkNest RX15 225 (TX14 11).1 (TX14 11).2.1 (TX14 11).2.2.1 "GameRulesModel" ∈ tables_1 := List.mem_of_getElem? (i := 1827) rfl
set_option maxRecDepth 100000 in
theorem n_1831 : Cond.fieldLinkNest RX15 223 (TX14 13).1 (TX14 13).2.1 (TX14 13).2.2.1 "GameRulesModel" ∈ tables_1 := List.mem_of_getElem? (i := 1831) rfl
set_option maxRecDepth 100000 in
theorem n_1833 : Cond.fieldLinkNest RX15 215 (TX14 14).1 (TX14 14).2.1 (TX14 14).2.2.1 "GameRulesModel" ∈ tables_1 := List.mem_of_getElem? (i := 1833) rfl
set_option maxRecDepth 100000 in
theorem m_2059 : Cond.methodLink RX15 218 yX14_isBecome ∈ W0 := w0_in (List.mem_append_right _ (List.mem_of_getElem? (i := 2059) rfl)) rfl
set_option maxRecDepth 100000 in
theorem m_2060 : Cond.instanceMethod yX14_isBecome ∈ W0 := w0_in (List.mem_append_right _ (List.mem_of_getElem? (i := 2060) rfl)) rfl
set_option maxRecDepth 100000 in
theorem m_2061 : Cond.selects RX14 yX14_isBecome yX14_isBecome ∈ W0 := w0_in (List.mem_append_right _ (List.mem_of_getElem? (i := 2061) rfl)) rfl
set_option maxRecDepth 100000 in
theorem m_2062 : Cond.code yX14_isBecome cX14_isBecome 5 (some .boolean) ∈ W0 := w0_in (List.mem_append_right _ (List.mem_of_getElem? (i := 2062) rfl)) rfl
section
variable {p : Program} {l : Launch} {e : Env} {R : Room} {s : State} {m : MethodId} {args : Array Value} {below : List Frame} {meth : Method} {c : Code} {H : Heap} {locs : List Loc} {cells slots : Nat} {Q : State → Prop}
variable {cc : ByteArray} {pc : Nat} {ls : Array Slot} {rest : List Value} {X : Ec} {h h1 : Hp} {nL : Nat} {rt : Option FieldType} {mn : String}
theorem gf_X15_223 {a r : Nat} (C : Cx X p s m args meth c RX15 cc nL rt mn) (hW : Wx X h H) (ha : hK h a = 14) (hr : hR h a 13 = some r) (hdg : decode cc pc = .ok (.getfield 223, 3)) (kk : hK h r = 17 → W p l e R s m args below meth c H locs cells slots Q (F0 m (pc + 3) ls (.ref r :: rest))) : W p l e R s m args below meth c H locs cells slots Q (F0 m pc ls (.ref a :: rest)) :=
  y_getrN C hW ha i_X14 (by decide) rfl (by decide) n_1831 rfl rfl hr hdg kk
theorem gf_X15_221 {a : Nat} (C : Cx X p s m args meth c RX15 cc nL rt mn) (hW : Wx X h H) (ha : hK h a = 14) (hdg : decode cc pc = .ok (.getfield 221, 3)) (kk : W p l e R s m args below meth c H locs cells slots Q (F0 m (pc + 3) ls (.int (hI h a 10) :: rest))) : W p l e R s m args below meth c H locs cells slots Q (F0 m pc ls (.ref a :: rest)) :=
  y_getiN C hW ha i_X14 (by decide) rfl (by decide) n_1825 rfl hdg kk
theorem gf_X15_215 {a r : Nat} (C : Cx X p s m args meth c RX15 cc nL rt mn) (hW : Wx X h H) (ha : hK h a = 14) (hr : hR h a 14 = some r) (hdg : decode cc pc = .ok (.getfield 215, 3)) (kk : hK h r = 17 → W p l e R s m args below meth c H locs cells slots Q (F0 m (pc + 3) ls (.ref r :: rest))) : W p l e R s m args below meth c H locs cells slots Q (F0 m pc ls (.ref a :: rest)) :=
  y_getrN C hW ha i_X14 (by decide) rfl (by decide) n_1833 rfl rfl hr hdg kk
theorem pf_X15_225 {a : Nat} {v : Int32} (C : Cx X p s m args meth c RX15 cc nL rt mn) (hW : Wx X h H) (hZ : va_S (aA (eB X)) s.heap H locs) (ha : hK h a = 14) (eh : h1 = wI h a 11 v) (hdg : decode cc pc = .ok (.putfield 225, 3)) (kk : ∀ (H1 : Heap) (locs1 : List Loc), Wx X h1 H1 → Km h h1 → va_S (aA (eB X)) s.heap H1 locs1 → W p l e R s m args below meth c H1 locs1 cells slots Q (F0 m (pc + 3) ls rest)) : W p l e R s m args below meth c H locs cells slots Q (F0 m pc ls (.int v :: .ref a :: rest)) :=
  y_putiN (ty := .int) C hW hZ ha i_X14 tyX14 tyX14_ok nmX14 (by decide) rfl rfl (by decide) n_1827 rfl (by decide +kernel) rfl rfl rfl eh hdg kk
theorem gf_X15_225 {a : Nat} (C : Cx X p s m args meth c RX15 cc nL rt mn) (hW : Wx X h H) (ha : hK h a = 14) (hdg : decode cc pc = .ok (.getfield 225, 3)) (kk : W p l e R s m args below meth c H locs cells slots Q (F0 m (pc + 3) ls (.int (hI h a 11) :: rest))) : W p l e R s m args below meth c H locs cells slots Q (F0 m pc ls (.ref a :: rest)) :=
  y_getiN C hW ha i_X14 (by decide) rfl (by decide) n_1827 rfl hdg kk
end
theorem cw_X15_218 : cwd RX15 218 yX14_isBecome cX14_isBecome 5 (some .boolean) false 1 := ⟨m_2062, m_2059, m_20, ⟨m_2060, m_2061⟩, by decide, by decide, by decide +kernel⟩
theorem dX15_isBecoming_0 : decode cX15_isBecoming 0 = .ok (.aload_n 0, 1) := by decide +kernel
theorem dX15_isBecoming_1 : decode cX15_isBecoming 1 = .ok (.aload_n 1, 1) := by decide +kernel
theorem dX15_isBecoming_2 : decode cX15_isBecoming 2 = .ok (.iload_n 2, 1) := by decide +kernel
theorem dX15_isBecoming_3 : decode cX15_isBecoming 3 = .ok (.invokevirtual 74, 3) := by decide +kernel
theorem dX15_isBecoming_6 : decode cX15_isBecoming 6 = .ok (.aload_n 0, 1) := by decide +kernel
theorem dX15_isBecoming_7 : decode cX15_isBecoming 7 = .ok (.aload_n 1, 1) := by decide +kernel
theorem dX15_isBecoming_8 : decode cX15_isBecoming 8 = .ok (.invokevirtual 165, 3) := by decide +kernel
theorem dX15_isBecoming_11 : decode cX15_isBecoming 11 = .ok (.istore_n 3, 1) := by decide +kernel
theorem dX15_isBecoming_12 : decode cX15_isBecoming 12 = .ok (.iload_n 3, 1) := by decide +kernel
theorem dX15_isBecoming_13 : decode cX15_isBecoming 13 = .ok (.iconst (-1), 1) := by decide +kernel
theorem dX15_isBecoming_14 : decode cX15_isBecoming 14 = .ok (.if_icmp .eq 37, 3) := by decide +kernel
theorem dX15_isBecoming_17 : decode cX15_isBecoming 17 = .ok (.iload_n 3, 1) := by decide +kernel
theorem dX15_isBecoming_18 : decode cX15_isBecoming 18 = .ok (.aload_n 0, 1) := by decide +kernel
theorem dX15_isBecoming_19 : decode cX15_isBecoming 19 = .ok (.getfield 57, 3) := by decide +kernel
theorem dX15_isBecoming_22 : decode cX15_isBecoming 22 = .ok (.getfield 221, 3) := by decide +kernel
theorem dX15_isBecoming_25 : decode cX15_isBecoming 25 = .ok (.if_icmp .eq 26, 3) := by decide +kernel
theorem dX15_isBecoming_28 : decode cX15_isBecoming 28 = .ok (.aload_n 0, 1) := by decide +kernel
theorem dX15_isBecoming_29 : decode cX15_isBecoming 29 = .ok (.getfield 57, 3) := by decide +kernel
theorem dX15_isBecoming_32 : decode cX15_isBecoming 32 = .ok (.getfield 215, 3) := by decide +kernel
theorem dX15_isBecoming_35 : decode cX15_isBecoming 35 = .ok (.iload_n 3, 1) := by decide +kernel
theorem dX15_isBecoming_36 : decode cX15_isBecoming 36 = .ok (.iaload, 1) := by decide +kernel
theorem dX15_isBecoming_37 : decode cX15_isBecoming 37 = .ok (.ifCond .gt 14, 3) := by decide +kernel
theorem dX15_isBecoming_40 : decode cX15_isBecoming 40 = .ok (.aload_n 0, 1) := by decide +kernel
theorem dX15_isBecoming_41 : decode cX15_isBecoming 41 = .ok (.getfield 57, 3) := by decide +kernel
theorem dX15_isBecoming_44 : decode cX15_isBecoming 44 = .ok (.iload_n 3, 1) := by decide +kernel
theorem dX15_isBecoming_45 : decode cX15_isBecoming 45 = .ok (.invokevirtual 218, 3) := by decide +kernel
theorem dX15_isBecoming_48 : decode cX15_isBecoming 48 = .ok (.ifCond .eq 5, 3) := by decide +kernel
theorem dX15_isBecoming_51 : decode cX15_isBecoming 51 = .ok (.iconst 0, 1) := by decide +kernel
theorem dX15_isBecoming_52 : decode cX15_isBecoming 52 = .ok (.ireturn, 1) := by decide +kernel
theorem dX15_isBecoming_53 : decode cX15_isBecoming 53 = .ok (.aload_n 0, 1) := by decide +kernel
theorem dX15_isBecoming_54 : decode cX15_isBecoming 54 = .ok (.aload_n 1, 1) := by decide +kernel
theorem dX15_isBecoming_55 : decode cX15_isBecoming 55 = .ok (.iload_n 2, 1) := by decide +kernel
theorem dX15_isBecoming_56 : decode cX15_isBecoming 56 = .ok (.invokevirtual 74, 3) := by decide +kernel
theorem dX15_isBecoming_59 : decode cX15_isBecoming 59 = .ok (.iconst 0, 1) := by decide +kernel
theorem dX15_isBecoming_60 : decode cX15_isBecoming 60 = .ok (.istore 4, 2) := by decide +kernel
theorem dX15_isBecoming_62 : decode cX15_isBecoming 62 = .ok (.iload 4, 2) := by decide +kernel
theorem dX15_isBecoming_64 : decode cX15_isBecoming 64 = .ok (.ifCond .eq 13, 3) := by decide +kernel
theorem dX15_isBecoming_67 : decode cX15_isBecoming 67 = .ok (.aload_n 0, 1) := by decide +kernel
theorem dX15_isBecoming_68 : decode cX15_isBecoming 68 = .ok (.aload_n 1, 1) := by decide +kernel
theorem dX15_isBecoming_69 : decode cX15_isBecoming 69 = .ok (.bipush 59, 2) := by decide +kernel
theorem dX15_isBecoming_71 : decode cX15_isBecoming 71 = .ok (.invokevirtual 94, 3) := by decide +kernel
theorem dX15_isBecoming_74 : decode cX15_isBecoming 74 = .ok (.ifCond .ne 143, 3) := by decide +kernel
theorem dX15_isBecoming_77 : decode cX15_isBecoming 77 = .ok (.aload_n 0, 1) := by decide +kernel
theorem dX15_isBecoming_78 : decode cX15_isBecoming 78 = .ok (.aload_n 1, 1) := by decide +kernel
theorem dX15_isBecoming_79 : decode cX15_isBecoming 79 = .ok (.invokevirtual 165, 3) := by decide +kernel
theorem dX15_isBecoming_82 : decode cX15_isBecoming 82 = .ok (.istore 5, 2) := by decide +kernel
theorem dX15_isBecoming_84 : decode cX15_isBecoming 84 = .ok (.iload 5, 2) := by decide +kernel
theorem dX15_isBecoming_86 : decode cX15_isBecoming 86 = .ok (.iconst (-1), 1) := by decide +kernel
theorem dX15_isBecoming_87 : decode cX15_isBecoming 87 = .ok (.if_icmp .eq 45, 3) := by decide +kernel
theorem dX15_isBecoming_90 : decode cX15_isBecoming 90 = .ok (.iload 5, 2) := by decide +kernel
theorem dX15_isBecoming_92 : decode cX15_isBecoming 92 = .ok (.iload_n 3, 1) := by decide +kernel
theorem dX15_isBecoming_93 : decode cX15_isBecoming 93 = .ok (.if_icmp .eq 39, 3) := by decide +kernel
theorem dX15_isBecoming_96 : decode cX15_isBecoming 96 = .ok (.iload 5, 2) := by decide +kernel
theorem dX15_isBecoming_98 : decode cX15_isBecoming 98 = .ok (.aload_n 0, 1) := by decide +kernel
theorem dX15_isBecoming_99 : decode cX15_isBecoming 99 = .ok (.getfield 57, 3) := by decide +kernel
theorem dX15_isBecoming_102 : decode cX15_isBecoming 102 = .ok (.getfield 221, 3) := by decide +kernel
theorem dX15_isBecoming_105 : decode cX15_isBecoming 105 = .ok (.if_icmp .eq 27, 3) := by decide +kernel
theorem dX15_isBecoming_108 : decode cX15_isBecoming 108 = .ok (.aload_n 0, 1) := by decide +kernel
theorem dX15_isBecoming_109 : decode cX15_isBecoming 109 = .ok (.getfield 57, 3) := by decide +kernel
theorem dX15_isBecoming_112 : decode cX15_isBecoming 112 = .ok (.getfield 215, 3) := by decide +kernel
theorem dX15_isBecoming_115 : decode cX15_isBecoming 115 = .ok (.iload 5, 2) := by decide +kernel
theorem dX15_isBecoming_117 : decode cX15_isBecoming 117 = .ok (.iaload, 1) := by decide +kernel
theorem dX15_isBecoming_118 : decode cX15_isBecoming 118 = .ok (.ifCond .ne 14, 3) := by decide +kernel
theorem dX15_isBecoming_121 : decode cX15_isBecoming 121 = .ok (.iload 4, 2) := by decide +kernel
theorem dX15_isBecoming_123 : decode cX15_isBecoming 123 = .ok (.bipush 6, 2) := by decide +kernel
theorem dX15_isBecoming_125 : decode cX15_isBecoming 125 = .ok (.if_icmp .ge 7, 3) := by decide +kernel
theorem dX15_isBecoming_128 : decode cX15_isBecoming 128 = .ok (.iconst 1, 1) := by decide +kernel
theorem dX15_isBecoming_129 : decode cX15_isBecoming 129 = .ok (.goto 4, 3) := by decide +kernel
theorem dX15_isBecoming_132 : decode cX15_isBecoming 132 = .ok (.iconst 0, 1) := by decide +kernel
theorem dX15_isBecoming_133 : decode cX15_isBecoming 133 = .ok (.istore 6, 2) := by decide +kernel
theorem dX15_isBecoming_135 : decode cX15_isBecoming 135 = .ok (.iconst 0, 1) := by decide +kernel
theorem dX15_isBecoming_136 : decode cX15_isBecoming 136 = .ok (.istore 7, 2) := by decide +kernel
theorem dX15_isBecoming_138 : decode cX15_isBecoming 138 = .ok (.iload 7, 2) := by decide +kernel
theorem dX15_isBecoming_140 : decode cX15_isBecoming 140 = .ok (.iload 4, 2) := by decide +kernel
theorem dX15_isBecoming_142 : decode cX15_isBecoming 142 = .ok (.if_icmp .ge 39, 3) := by decide +kernel
theorem dX15_isBecoming_145 : decode cX15_isBecoming 145 = .ok (.iload 6, 2) := by decide +kernel
theorem dX15_isBecoming_147 : decode cX15_isBecoming 147 = .ok (.aload_n 0, 1) := by decide +kernel
theorem dX15_isBecoming_148 : decode cX15_isBecoming 148 = .ok (.getfield 57, 3) := by decide +kernel
theorem dX15_isBecoming_151 : decode cX15_isBecoming 151 = .ok (.getfield 223, 3) := by decide +kernel
theorem dX15_isBecoming_154 : decode cX15_isBecoming 154 = .ok (.bipush 6, 2) := by decide +kernel
theorem dX15_isBecoming_156 : decode cX15_isBecoming 156 = .ok (.iload_n 3, 1) := by decide +kernel
theorem dX15_isBecoming_157 : decode cX15_isBecoming 157 = .ok (.imul, 1) := by decide +kernel
theorem dX15_isBecoming_158 : decode cX15_isBecoming 158 = .ok (.iload 7, 2) := by decide +kernel
theorem dX15_isBecoming_160 : decode cX15_isBecoming 160 = .ok (.iadd, 1) := by decide +kernel
theorem dX15_isBecoming_161 : decode cX15_isBecoming 161 = .ok (.iaload, 1) := by decide +kernel
theorem dX15_isBecoming_162 : decode cX15_isBecoming 162 = .ok (.iload 5, 2) := by decide +kernel
theorem dX15_isBecoming_164 : decode cX15_isBecoming 164 = .ok (.if_icmp .eq 7, 3) := by decide +kernel
theorem dX15_isBecoming_167 : decode cX15_isBecoming 167 = .ok (.iconst 1, 1) := by decide +kernel
theorem dX15_isBecoming_168 : decode cX15_isBecoming 168 = .ok (.goto 4, 3) := by decide +kernel
theorem dX15_isBecoming_171 : decode cX15_isBecoming 171 = .ok (.iconst 0, 1) := by decide +kernel
theorem dX15_isBecoming_172 : decode cX15_isBecoming 172 = .ok (.iand, 1) := by decide +kernel
theorem dX15_isBecoming_173 : decode cX15_isBecoming 173 = .ok (.istore 6, 2) := by decide +kernel
theorem dX15_isBecoming_175 : decode cX15_isBecoming 175 = .ok (.iinc 7 1, 3) := by decide +kernel
theorem dX15_isBecoming_178 : decode cX15_isBecoming 178 = .ok (.goto (-40), 3) := by decide +kernel
theorem dX15_isBecoming_181 : decode cX15_isBecoming 181 = .ok (.iload 6, 2) := by decide +kernel
theorem dX15_isBecoming_183 : decode cX15_isBecoming 183 = .ok (.ifCond .ne 5, 3) := by decide +kernel
theorem dX15_isBecoming_186 : decode cX15_isBecoming 186 = .ok (.iconst 0, 1) := by decide +kernel
theorem dX15_isBecoming_187 : decode cX15_isBecoming 187 = .ok (.ireturn, 1) := by decide +kernel
theorem dX15_isBecoming_188 : decode cX15_isBecoming 188 = .ok (.aload_n 0, 1) := by decide +kernel
theorem dX15_isBecoming_189 : decode cX15_isBecoming 189 = .ok (.getfield 57, 3) := by decide +kernel
theorem dX15_isBecoming_192 : decode cX15_isBecoming 192 = .ok (.getfield 223, 3) := by decide +kernel
theorem dX15_isBecoming_195 : decode cX15_isBecoming 195 = .ok (.bipush 6, 2) := by decide +kernel
theorem dX15_isBecoming_197 : decode cX15_isBecoming 197 = .ok (.iload_n 3, 1) := by decide +kernel
theorem dX15_isBecoming_198 : decode cX15_isBecoming 198 = .ok (.imul, 1) := by decide +kernel
theorem dX15_isBecoming_199 : decode cX15_isBecoming 199 = .ok (.iload 4, 2) := by decide +kernel
theorem dX15_isBecoming_201 : decode cX15_isBecoming 201 = .ok (.iadd, 1) := by decide +kernel
theorem dX15_isBecoming_202 : decode cX15_isBecoming 202 = .ok (.iload 5, 2) := by decide +kernel
theorem dX15_isBecoming_204 : decode cX15_isBecoming 204 = .ok (.iastore, 1) := by decide +kernel
theorem dX15_isBecoming_205 : decode cX15_isBecoming 205 = .ok (.iinc 4 1, 3) := by decide +kernel
theorem dX15_isBecoming_208 : decode cX15_isBecoming 208 = .ok (.aload_n 0, 1) := by decide +kernel
theorem dX15_isBecoming_209 : decode cX15_isBecoming 209 = .ok (.aload_n 1, 1) := by decide +kernel
theorem dX15_isBecoming_210 : decode cX15_isBecoming 210 = .ok (.iload_n 2, 1) := by decide +kernel
theorem dX15_isBecoming_211 : decode cX15_isBecoming 211 = .ok (.invokevirtual 74, 3) := by decide +kernel
theorem dX15_isBecoming_214 : decode cX15_isBecoming 214 = .ok (.goto (-152), 3) := by decide +kernel
theorem dX15_isBecoming_217 : decode cX15_isBecoming 217 = .ok (.aload_n 0, 1) := by decide +kernel
theorem dX15_isBecoming_218 : decode cX15_isBecoming 218 = .ok (.getfield 57, 3) := by decide +kernel
theorem dX15_isBecoming_221 : decode cX15_isBecoming 221 = .ok (.getfield 215, 3) := by decide +kernel
theorem dX15_isBecoming_224 : decode cX15_isBecoming 224 = .ok (.iload_n 3, 1) := by decide +kernel
theorem dX15_isBecoming_225 : decode cX15_isBecoming 225 = .ok (.iload 4, 2) := by decide +kernel
theorem dX15_isBecoming_227 : decode cX15_isBecoming 227 = .ok (.iastore, 1) := by decide +kernel
theorem dX15_isBecoming_228 : decode cX15_isBecoming 228 = .ok (.aload_n 0, 1) := by decide +kernel
theorem dX15_isBecoming_229 : decode cX15_isBecoming 229 = .ok (.getfield 57, 3) := by decide +kernel
theorem dX15_isBecoming_232 : decode cX15_isBecoming 232 = .ok (.aload_n 0, 1) := by decide +kernel
theorem dX15_isBecoming_233 : decode cX15_isBecoming 233 = .ok (.getfield 57, 3) := by decide +kernel
theorem dX15_isBecoming_236 : decode cX15_isBecoming 236 = .ok (.getfield 225, 3) := by decide +kernel
theorem dX15_isBecoming_239 : decode cX15_isBecoming 239 = .ok (.iconst (-1), 1) := by decide +kernel
theorem dX15_isBecoming_240 : decode cX15_isBecoming 240 = .ok (.if_icmp .ne 7, 3) := by decide +kernel
theorem dX15_isBecoming_243 : decode cX15_isBecoming 243 = .ok (.iload_n 3, 1) := by decide +kernel
theorem dX15_isBecoming_244 : decode cX15_isBecoming 244 = .ok (.goto 10, 3) := by decide +kernel
theorem dX15_isBecoming_247 : decode cX15_isBecoming 247 = .ok (.aload_n 0, 1) := by decide +kernel
theorem dX15_isBecoming_248 : decode cX15_isBecoming 248 = .ok (.getfield 57, 3) := by decide +kernel
theorem dX15_isBecoming_251 : decode cX15_isBecoming 251 = .ok (.getfield 225, 3) := by decide +kernel
theorem dX15_isBecoming_254 : decode cX15_isBecoming 254 = .ok (.putfield 225, 3) := by decide +kernel
theorem dX15_isBecoming_257 : decode cX15_isBecoming 257 = .ok (.iconst 1, 1) := by decide +kernel
theorem dX15_isBecoming_258 : decode cX15_isBecoming 258 = .ok (.ireturn, 1) := by decide +kernel
def sX15_isBecoming_51 (F : Nat) (h : Hp) : Option (Int32 × Hp) := some ((0 : Int32), h)
def sX15_isBecoming_172 (F : Nat) (k_62 : Hp → Nat → Nat → Int32 → Int32 → Int32 → Option (Int32 × Hp)) (k_138 : Hp → Nat → Nat → Int32 → Int32 → Int32 → Int32 → Int32 → Int32 → Option (Int32 × Hp)) (h : Hp) (x0 : Nat) (x1 : Nat) (x2 : Int32) (x3 : Int32) (x4 : Int32) (x5 : Int32) (x7 : Int32) (t0 : Int32) (t1 : Int32) : Option (Int32 × Hp) := nm (t1 &&& t0) fun v_1 => nm (x7 + (1 : Int32)) fun v_2 => k_138 h x0 x1 x2 x3 x4 x5 v_1 v_2
def sX15_isBecoming_138 (F : Nat) (k_62 : Hp → Nat → Nat → Int32 → Int32 → Int32 → Option (Int32 × Hp)) : Nat → Hp → Nat → Nat → Int32 → Int32 → Int32 → Int32 → Int32 → Int32 → Option (Int32 × Hp)
  | 0, _, _, _, _, _, _, _, _, _ => none
  | f + 1, h, x0, x1, x2, x3, x4, x5, x6, x7 => br (x4 ≤ x7) (br (x6 = 0) (some ((0 : Int32), h)) (cl (hR h x0 5) fun r_3 => cl (hR h r_3 13) fun r_4 => gd (inB (((6 : Int32) * x3) + x4) (hN h r_4)) <| nm (wI h r_4 (((6 : Int32) * x3) + x4).toNatClampNeg x5) fun h_6 => nm (x4 + (1 : Int32)) fun v_7 => cl (sX15_nextToken F h_6 x0 x1 x2) fun o_8 => k_62 o_8 x0 x1 x2 x3 v_7)) (cl (hR h x0 5) fun r_9 => cl (hR h r_9 13) fun r_10 => gd (inB (((6 : Int32) * x3) + x7) (hN h r_10)) <| br ((hI h r_10 (((6 : Int32) * x3) + x7).toNatClampNeg) = x5) (sX15_isBecoming_172 F k_62 (sX15_isBecoming_138 F k_62 f) h x0 x1 x2 x3 x4 x5 x7 (0 : Int32) x6) (sX15_isBecoming_172 F k_62 (sX15_isBecoming_138 F k_62 f) h x0 x1 x2 x3 x4 x5 x7 (1 : Int32) x6))
def sX15_isBecoming_133 (F : Nat) (k_62 : Hp → Nat → Nat → Int32 → Int32 → Int32 → Option (Int32 × Hp)) (h : Hp) (x0 : Nat) (x1 : Nat) (x2 : Int32) (x3 : Int32) (x4 : Int32) (x5 : Int32) (t0 : Int32) : Option (Int32 × Hp) := sX15_isBecoming_138 F k_62 F h x0 x1 x2 x3 x4 x5 t0 (0 : Int32)
def sX15_isBecoming_132 (F : Nat) (k_62 : Hp → Nat → Nat → Int32 → Int32 → Int32 → Option (Int32 × Hp)) (h : Hp) (x0 : Nat) (x1 : Nat) (x2 : Int32) (x3 : Int32) (x4 : Int32) (x5 : Int32) : Option (Int32 × Hp) := sX15_isBecoming_133 F k_62 h x0 x1 x2 x3 x4 x5 (0 : Int32)
def sX15_isBecoming_77 (F : Nat) (k_62 : Hp → Nat → Nat → Int32 → Int32 → Int32 → Option (Int32 × Hp)) (h : Hp) (x0 : Nat) (x1 : Nat) (x2 : Int32) (x3 : Int32) (x4 : Int32) : Option (Int32 × Hp) := cl (sX15_manAt F h x0 x1) fun o_1 => br (o_1.1 = (-1 : Int32)) (sX15_isBecoming_132 F k_62 o_1.2 x0 x1 x2 x3 x4 o_1.1) (br (o_1.1 = x3) (sX15_isBecoming_132 F k_62 o_1.2 x0 x1 x2 x3 x4 o_1.1) (cl (hR o_1.2 x0 5) fun r_4 => br (o_1.1 = (hI o_1.2 r_4 10)) (sX15_isBecoming_132 F k_62 o_1.2 x0 x1 x2 x3 x4 o_1.1) (cl (hR o_1.2 x0 5) fun r_6 => cl (hR o_1.2 r_6 14) fun r_7 => gd (inB o_1.1 (hN o_1.2 r_7)) <| br ((hI o_1.2 r_7 o_1.1.toNatClampNeg) = 0) (br ((6 : Int32) ≤ x4) (sX15_isBecoming_132 F k_62 o_1.2 x0 x1 x2 x3 x4 o_1.1) (sX15_isBecoming_133 F k_62 o_1.2 x0 x1 x2 x3 x4 o_1.1 (1 : Int32))) (sX15_isBecoming_132 F k_62 o_1.2 x0 x1 x2 x3 x4 o_1.1))))
def sX15_isBecoming_254 (F : Nat) (h : Hp) (t0 : Int32) (t1 : Nat) : Option (Int32 × Hp) := nm (wI h t1 11 t0) fun h_1 => some ((1 : Int32), h_1)
def sX15_isBecoming_62 (F : Nat) : Nat → Hp → Nat → Nat → Int32 → Int32 → Int32 → Option (Int32 × Hp)
  | 0, _, _, _, _, _, _ => none
  | f + 1, h, x0, x1, x2, x3, x4 => br (x4 = 0) (sX15_isBecoming_77 F (sX15_isBecoming_62 F f) h x0 x1 x2 x3 x4) (cl (sX15_isSign h x0 x1 (59 : Int32)) fun o_2 => br (o_2.1 = 0) (sX15_isBecoming_77 F (sX15_isBecoming_62 F f) o_2.2 x0 x1 x2 x3 x4) (cl (hR o_2.2 x0 5) fun r_4 => cl (hR o_2.2 r_4 14) fun r_5 => gd (inB x3 (hN o_2.2 r_5)) <| nm (wI o_2.2 r_5 x3.toNatClampNeg x4) fun h_7 => cl (hR h_7 x0 5) fun r_8 => cl (hR h_7 x0 5) fun r_9 => br ((hI h_7 r_9 11) = (-1 : Int32)) (sX15_isBecoming_254 F h_7 x3 r_8) (cl (hR h_7 x0 5) fun r_11 => sX15_isBecoming_254 F h_7 (hI h_7 r_11 11) r_8)))
def sX15_isBecoming (F : Nat) (h : Hp) (x0 : Nat) (x1 : Nat) (x2 : Int32) : Option (Int32 × Hp) := cl (sX15_nextToken F h x0 x1 x2) fun o_1 => cl (sX15_manAt F o_1 x0 x1) fun o_2 => br (o_2.1 = (-1 : Int32)) (sX15_isBecoming_51 F o_2.2 ) (cl (hR o_2.2 x0 5) fun r_4 => br (o_2.1 = (hI o_2.2 r_4 10)) (sX15_isBecoming_51 F o_2.2 ) (cl (hR o_2.2 x0 5) fun r_6 => cl (hR o_2.2 r_6 14) fun r_7 => gd (inB o_2.1 (hN o_2.2 r_7)) <| br (0 < (hI o_2.2 r_7 o_2.1.toNatClampNeg)) (sX15_isBecoming_51 F o_2.2 ) (cl (hR o_2.2 x0 5) fun r_10 => cl (sX14_isBecome F o_2.2 r_10 o_2.1) fun o_11 => br (o_11.1 = 0) (cl (sX15_nextToken F o_11.2 x0 x1 x2) fun o_13 => sX15_isBecoming_62 F F o_13 x0 x1 x2 o_2.1 (0 : Int32)) (sX15_isBecoming_51 F o_11.2 ))))
set_option maxRecDepth 20000 in
theorem moX15_isBecoming_51 {o : Int32 × Hp} {F : Nat} {h : Hp} (hE : sX15_isBecoming_51 F h  = some o) : Le h o.2 := by
  exact le_some2 hE
set_option maxRecDepth 20000 in
theorem moX15_isBecoming_172 {o : Int32 × Hp} {k_62 : Hp → Nat → Nat → Int32 → Int32 → Int32 → Option (Int32 × Hp)} {k_138 : Hp → Nat → Nat → Int32 → Int32 → Int32 → Int32 → Int32 → Int32 → Option (Int32 × Hp)} {F : Nat} (mk_62 : ∀ (h : Hp) (x0 : Nat) (x1 : Nat) (x2 : Int32) (x3 : Int32) (x4 : Int32), k_62 h x0 x1 x2 x3 x4 = some o → Le h o.2) (mk_138 : ∀ (h : Hp) (x0 : Nat) (x1 : Nat) (x2 : Int32) (x3 : Int32) (x4 : Int32) (x5 : Int32) (x6 : Int32) (x7 : Int32), k_138 h x0 x1 x2 x3 x4 x5 x6 x7 = some o → Le h o.2) {h : Hp} {x0 : Nat} {x1 : Nat} {x2 : Int32} {x3 : Int32} {x4 : Int32} {x5 : Int32} {x7 : Int32} {t0 : Int32} {t1 : Int32} (hE : sX15_isBecoming_172 F k_62 k_138 h x0 x1 x2 x3 x4 x5 x7 t0 t1 = some o) : Le h o.2 := by
  obtain ⟨v_1, ev_1, hE⟩ := nm_e2 hE
  obtain ⟨v_2, ev_2, hE⟩ := nm_e2 hE
  exact mk_138 _ _ _ _ _ _ _ _ _ hE
set_option maxRecDepth 20000 in
theorem moX15_isBecoming_138 {o : Int32 × Hp} {k_62 : Hp → Nat → Nat → Int32 → Int32 → Int32 → Option (Int32 × Hp)} {F : Nat} (mk_62 : ∀ (h : Hp) (x0 : Nat) (x1 : Nat) (x2 : Int32) (x3 : Int32) (x4 : Int32), k_62 h x0 x1 x2 x3 x4 = some o → Le h o.2) : ∀ (f : Nat) {h : Hp} {x0 : Nat} {x1 : Nat} {x2 : Int32} {x3 : Int32} {x4 : Int32} {x5 : Int32} {x6 : Int32} {x7 : Int32}, sX15_isBecoming_138 F k_62 f h x0 x1 x2 x3 x4 x5 x6 x7 = some o → Le h o.2 := by
  intro f
  induction f with
  | zero =>
    intro h x0 x1 x2 x3 x4 x5 x6 x7 hE
    rw [sX15_isBecoming_138] at hE
    cases hE
  | succ f ih =>
    intro h x0 x1 x2 x3 x4 x5 x6 x7 hE
    rw [sX15_isBecoming_138] at hE
    have mk_138 : ∀ (h : Hp) (x0 : Nat) (x1 : Nat) (x2 : Int32) (x3 : Int32) (x4 : Int32) (x5 : Int32) (x6 : Int32) (x7 : Int32), sX15_isBecoming_138 F k_62 f h x0 x1 x2 x3 x4 x5 x6 x7 = some o → Le h o.2 := fun h x0 x1 x2 x3 x4 x5 x6 x7 hE => ih hE
    rcases br_e hE with ⟨_, hE⟩ | ⟨_, hE⟩
    · rcases br_e hE with ⟨_, hE⟩ | ⟨_, hE⟩
      · exact le_some2 hE
      · obtain ⟨r_3, er_3, hE⟩ := cl_e hE
        obtain ⟨r_4, er_4, hE⟩ := cl_e hE
        obtain ⟨g_5, hE⟩ := gd_e hE
        obtain ⟨h_6, eh_6, hE⟩ := nm_e2 hE
        refine (le_I eh_6).tr ?_
        obtain ⟨v_7, ev_7, hE⟩ := nm_e2 hE
        obtain ⟨o_8, eo_8, hE⟩ := cl_e hE
        refine (moX15_nextToken eo_8).tr ?_
        exact mk_62 _ _ _ _ _ _ hE
    · obtain ⟨r_9, er_9, hE⟩ := cl_e hE
      obtain ⟨r_10, er_10, hE⟩ := cl_e hE
      obtain ⟨g_11, hE⟩ := gd_e hE
      rcases br_e hE with ⟨_, hE⟩ | ⟨_, hE⟩
      · exact moX15_isBecoming_172 mk_62 mk_138 hE
      · exact moX15_isBecoming_172 mk_62 mk_138 hE
set_option maxRecDepth 20000 in
theorem moX15_isBecoming_133 {o : Int32 × Hp} {k_62 : Hp → Nat → Nat → Int32 → Int32 → Int32 → Option (Int32 × Hp)} {F : Nat} (mk_62 : ∀ (h : Hp) (x0 : Nat) (x1 : Nat) (x2 : Int32) (x3 : Int32) (x4 : Int32), k_62 h x0 x1 x2 x3 x4 = some o → Le h o.2) {h : Hp} {x0 : Nat} {x1 : Nat} {x2 : Int32} {x3 : Int32} {x4 : Int32} {x5 : Int32} {t0 : Int32} (hE : sX15_isBecoming_133 F k_62 h x0 x1 x2 x3 x4 x5 t0 = some o) : Le h o.2 := by
  exact moX15_isBecoming_138 mk_62 _ hE
set_option maxRecDepth 20000 in
theorem moX15_isBecoming_132 {o : Int32 × Hp} {k_62 : Hp → Nat → Nat → Int32 → Int32 → Int32 → Option (Int32 × Hp)} {F : Nat} (mk_62 : ∀ (h : Hp) (x0 : Nat) (x1 : Nat) (x2 : Int32) (x3 : Int32) (x4 : Int32), k_62 h x0 x1 x2 x3 x4 = some o → Le h o.2) {h : Hp} {x0 : Nat} {x1 : Nat} {x2 : Int32} {x3 : Int32} {x4 : Int32} {x5 : Int32} (hE : sX15_isBecoming_132 F k_62 h x0 x1 x2 x3 x4 x5 = some o) : Le h o.2 := by
  exact moX15_isBecoming_133 mk_62 hE
set_option maxRecDepth 20000 in
theorem moX15_isBecoming_77 {o : Int32 × Hp} {k_62 : Hp → Nat → Nat → Int32 → Int32 → Int32 → Option (Int32 × Hp)} {F : Nat} (mk_62 : ∀ (h : Hp) (x0 : Nat) (x1 : Nat) (x2 : Int32) (x3 : Int32) (x4 : Int32), k_62 h x0 x1 x2 x3 x4 = some o → Le h o.2) {h : Hp} {x0 : Nat} {x1 : Nat} {x2 : Int32} {x3 : Int32} {x4 : Int32} (hE : sX15_isBecoming_77 F k_62 h x0 x1 x2 x3 x4 = some o) : Le h o.2 := by
  obtain ⟨o_1, eo_1, hE⟩ := cl_e hE
  refine (moX15_manAt eo_1).tr ?_
  rcases br_e hE with ⟨_, hE⟩ | ⟨_, hE⟩
  · exact moX15_isBecoming_132 mk_62 hE
  · rcases br_e hE with ⟨_, hE⟩ | ⟨_, hE⟩
    · exact moX15_isBecoming_132 mk_62 hE
    · obtain ⟨r_4, er_4, hE⟩ := cl_e hE
      rcases br_e hE with ⟨_, hE⟩ | ⟨_, hE⟩
      · exact moX15_isBecoming_132 mk_62 hE
      · obtain ⟨r_6, er_6, hE⟩ := cl_e hE
        obtain ⟨r_7, er_7, hE⟩ := cl_e hE
        obtain ⟨g_8, hE⟩ := gd_e hE
        rcases br_e hE with ⟨_, hE⟩ | ⟨_, hE⟩
        · rcases br_e hE with ⟨_, hE⟩ | ⟨_, hE⟩
          · exact moX15_isBecoming_132 mk_62 hE
          · exact moX15_isBecoming_133 mk_62 hE
        · exact moX15_isBecoming_132 mk_62 hE
set_option maxRecDepth 20000 in
theorem moX15_isBecoming_254 {o : Int32 × Hp} {F : Nat} {h : Hp} {t0 : Int32} {t1 : Nat} (hE : sX15_isBecoming_254 F h  t0 t1 = some o) : Le h o.2 := by
  obtain ⟨h_1, eh_1, hE⟩ := nm_e2 hE
  refine (le_I eh_1).tr ?_
  exact le_some2 hE
set_option maxRecDepth 20000 in
theorem moX15_isBecoming_62 {o : Int32 × Hp} {F : Nat} : ∀ (f : Nat) {h : Hp} {x0 : Nat} {x1 : Nat} {x2 : Int32} {x3 : Int32} {x4 : Int32}, sX15_isBecoming_62 F f h x0 x1 x2 x3 x4 = some o → Le h o.2 := by
  intro f
  induction f with
  | zero =>
    intro h x0 x1 x2 x3 x4 hE
    rw [sX15_isBecoming_62] at hE
    cases hE
  | succ f ih =>
    intro h x0 x1 x2 x3 x4 hE
    rw [sX15_isBecoming_62] at hE
    have mk_62 : ∀ (h : Hp) (x0 : Nat) (x1 : Nat) (x2 : Int32) (x3 : Int32) (x4 : Int32), sX15_isBecoming_62 F f h x0 x1 x2 x3 x4 = some o → Le h o.2 := fun h x0 x1 x2 x3 x4 hE => ih hE
    rcases br_e hE with ⟨_, hE⟩ | ⟨_, hE⟩
    · exact moX15_isBecoming_77 mk_62 hE
    · obtain ⟨o_2, eo_2, hE⟩ := cl_e hE
      refine (moX15_isSign eo_2).tr ?_
      rcases br_e hE with ⟨_, hE⟩ | ⟨_, hE⟩
      · exact moX15_isBecoming_77 mk_62 hE
      · obtain ⟨r_4, er_4, hE⟩ := cl_e hE
        obtain ⟨r_5, er_5, hE⟩ := cl_e hE
        obtain ⟨g_6, hE⟩ := gd_e hE
        obtain ⟨h_7, eh_7, hE⟩ := nm_e2 hE
        refine (le_I eh_7).tr ?_
        obtain ⟨r_8, er_8, hE⟩ := cl_e hE
        obtain ⟨r_9, er_9, hE⟩ := cl_e hE
        rcases br_e hE with ⟨_, hE⟩ | ⟨_, hE⟩
        · exact moX15_isBecoming_254 hE
        · obtain ⟨r_11, er_11, hE⟩ := cl_e hE
          exact moX15_isBecoming_254 hE
set_option maxRecDepth 20000 in
theorem moX15_isBecoming {o : Int32 × Hp} {F : Nat} {h : Hp} {x0 : Nat} {x1 : Nat} {x2 : Int32} (hE : sX15_isBecoming F h x0 x1 x2 = some o) : Le h o.2 := by
  obtain ⟨o_1, eo_1, hE⟩ := cl_e hE
  refine (moX15_nextToken eo_1).tr ?_
  obtain ⟨o_2, eo_2, hE⟩ := cl_e hE
  refine (moX15_manAt eo_2).tr ?_
  rcases br_e hE with ⟨_, hE⟩ | ⟨_, hE⟩
  · exact moX15_isBecoming_51 hE
  · obtain ⟨r_4, er_4, hE⟩ := cl_e hE
    rcases br_e hE with ⟨_, hE⟩ | ⟨_, hE⟩
    · exact moX15_isBecoming_51 hE
    · obtain ⟨r_6, er_6, hE⟩ := cl_e hE
      obtain ⟨r_7, er_7, hE⟩ := cl_e hE
      obtain ⟨g_8, hE⟩ := gd_e hE
      rcases br_e hE with ⟨_, hE⟩ | ⟨_, hE⟩
      · exact moX15_isBecoming_51 hE
      · obtain ⟨r_10, er_10, hE⟩ := cl_e hE
        obtain ⟨o_11, eo_11, hE⟩ := cl_e hE
        refine (moX14_isBecome eo_11).tr ?_
        rcases br_e hE with ⟨_, hE⟩ | ⟨_, hE⟩
        · obtain ⟨o_13, eo_13, hE⟩ := cl_e hE
          refine (moX15_nextToken eo_13).tr ?_
          exact moX15_isBecoming_62 _ hE
        · exact moX15_isBecoming_51 hE
set_option maxRecDepth 20000 in
theorem bX15_isBecoming_51 {p : Program} {l : Launch} {e : Env} {s : State} {m : MethodId} {args : Array Value} {below : List Frame} {meth : Method} {c : Code} {X : Ec} {h0 : Hp} {o : Int32 × Hp} {F : Nat} (C : Cx X p s m args meth c RX15 cX15_isBecoming 8 (some .boolean) "isBecoming") {h : Hp} {H : Heap} {locs : List Loc} (hkm : Km h0 h) (hW : Wx X h H) (hZ : va_S (aA (eB X)) s.heap H locs) (ls : Array Slot) (hl : lv_has ls 8 []) (hE : sX15_isBecoming_51 F h  = some o) : W p l e (rm 2 49) s m args below meth c H locs 0 0 (MQ below (QI X h0 o.1 o.2) args s 0 0 (aA (eB X))) (F0 m 51 ls []) := by
  refine lv_iconst (v := (0 : Int32)) C.1 C.2.1 dX15_isBecoming_51 (by decide) ?_
  exact x_iret C rfl (by decide) hW hZ hkm hE dX15_isBecoming_52
set_option maxRecDepth 20000 in
theorem bX15_isBecoming_172 {p : Program} {l : Launch} {e : Env} {s : State} {m : MethodId} {args : Array Value} {below : List Frame} {meth : Method} {c : Code} {X : Ec} {h0 : Hp} {o : Int32 × Hp} {k_62 : Hp → Nat → Nat → Int32 → Int32 → Int32 → Option (Int32 × Hp)} {k_138 : Hp → Nat → Nat → Int32 → Int32 → Int32 → Int32 → Int32 → Int32 → Option (Int32 × Hp)} {F : Nat} (C : Cx X p s m args meth c RX15 cX15_isBecoming 8 (some .boolean) "isBecoming") (hk_62 : ∀ (h : Hp) (x0 : Nat) (x1 : Nat) (x2 : Int32) (x3 : Int32) (x4 : Int32) (H : Heap) (locs : List Loc), hK h x0 = 15 → hK h x1 = 16 → Km h0 h → Wx X h H → va_S (aA (eB X)) s.heap H locs → ∀ (ls : Array Slot), lv_has ls 8 [(0, .ref x0), (1, .ref x1), (2, .int x2), (3, .int x3), (4, .int x4)] → k_62 h x0 x1 x2 x3 x4 = some o → W p l e (rm 2 49) s m args below meth c H locs 0 0 (MQ below (QI X h0 o.1 o.2) args s 0 0 (aA (eB X))) (F0 m 62 ls [])) (hk_138 : ∀ (h : Hp) (x0 : Nat) (x1 : Nat) (x2 : Int32) (x3 : Int32) (x4 : Int32) (x5 : Int32) (x6 : Int32) (x7 : Int32) (H : Heap) (locs : List Loc), hK h x0 = 15 → hK h x1 = 16 → Km h0 h → Wx X h H → va_S (aA (eB X)) s.heap H locs → ∀ (ls : Array Slot), lv_has ls 8 [(0, .ref x0), (1, .ref x1), (2, .int x2), (3, .int x3), (4, .int x4), (5, .int x5), (6, .int x6), (7, .int x7)] → k_138 h x0 x1 x2 x3 x4 x5 x6 x7 = some o → W p l e (rm 2 49) s m args below meth c H locs 0 0 (MQ below (QI X h0 o.1 o.2) args s 0 0 (aA (eB X))) (F0 m 138 ls [])) {h : Hp} {x0 : Nat} {x1 : Nat} {x2 : Int32} {x3 : Int32} {x4 : Int32} {x5 : Int32} {x7 : Int32} {t0 : Int32} {t1 : Int32} {H : Heap} {locs : List Loc} (k_x0 : hK h x0 = 15) (k_x1 : hK h x1 = 16) (hkm : Km h0 h) (hW : Wx X h H) (hZ : va_S (aA (eB X)) s.heap H locs) (ls : Array Slot) (hl : lv_has ls 8 [(0, .ref x0), (1, .ref x1), (2, .int x2), (3, .int x3), (4, .int x4), (5, .int x5), (7, .int x7)]) (hE : sX15_isBecoming_172 F k_62 k_138 h x0 x1 x2 x3 x4 x5 x7 t0 t1 = some o) : W p l e (rm 2 49) s m args below meth c H locs 0 0 (MQ below (QI X h0 o.1 o.2) args s 0 0 (aA (eB X))) (F0 m 172 ls [.int t0, .int t1]) := by
  refine lv_iand C.1 C.2.1 dX15_isBecoming_172 ?_
  obtain ⟨v_1, ev_1, hE⟩ := nm_e2 hE
  refine x_nmI ev_1 ?_
  refine lv_istore (lv' := [(6, .int v_1), (0, .ref x0), (1, .ref x1), (2, .int x2), (3, .int x3), (4, .int x4), (5, .int x5), (7, .int x7)]) C.1 C.2.1 dX15_isBecoming_173 hl (by decide) rfl (fun ls hl => ?_)
  obtain ⟨v_2, ev_2, hE⟩ := nm_e2 hE
  refine lv_iinc (v := v_2) (lv' := [(7, .int v_2), (6, .int v_1), (0, .ref x0), (1, .ref x1), (2, .int x2), (3, .int x3), (4, .int x4), (5, .int x5)]) C.1 C.2.1 dX15_isBecoming_175 hl (k := 7) rfl (by rw [ev_2]; rfl) (by decide) rfl (fun ls hl => ?_)
  refine lv_goto (tgt := 138) C.1 C.2.1 dX15_isBecoming_178 (by decide) ?_
  exact hk_138 _ _ _ _ _ _ _ _ _ _ _ k_x0 k_x1 hkm hW hZ _ (lv_sub hl [2, 3, 4, 5, 6, 7, 1, 0] rfl) hE
set_option maxRecDepth 20000 in
theorem bX15_isBecoming_138 {p : Program} {l : Launch} {e : Env} {s : State} {m : MethodId} {args : Array Value} {below : List Frame} {meth : Method} {c : Code} {X : Ec} {h0 : Hp} {o : Int32 × Hp} {k_62 : Hp → Nat → Nat → Int32 → Int32 → Int32 → Option (Int32 × Hp)} {F : Nat} (C : Cx X p s m args meth c RX15 cX15_isBecoming 8 (some .boolean) "isBecoming") (hk_62 : ∀ (h : Hp) (x0 : Nat) (x1 : Nat) (x2 : Int32) (x3 : Int32) (x4 : Int32) (H : Heap) (locs : List Loc), hK h x0 = 15 → hK h x1 = 16 → Km h0 h → Wx X h H → va_S (aA (eB X)) s.heap H locs → ∀ (ls : Array Slot), lv_has ls 8 [(0, .ref x0), (1, .ref x1), (2, .int x2), (3, .int x3), (4, .int x4)] → k_62 h x0 x1 x2 x3 x4 = some o → W p l e (rm 2 49) s m args below meth c H locs 0 0 (MQ below (QI X h0 o.1 o.2) args s 0 0 (aA (eB X))) (F0 m 62 ls [])) : ∀ (f : Nat) {h : Hp} {x0 : Nat} {x1 : Nat} {x2 : Int32} {x3 : Int32} {x4 : Int32} {x5 : Int32} {x6 : Int32} {x7 : Int32} {H : Heap} {locs : List Loc} (k_x0 : hK h x0 = 15) (k_x1 : hK h x1 = 16), Km h0 h → Wx X h H → va_S (aA (eB X)) s.heap H locs → ∀ (ls : Array Slot), lv_has ls 8 [(0, .ref x0), (1, .ref x1), (2, .int x2), (3, .int x3), (4, .int x4), (5, .int x5), (6, .int x6), (7, .int x7)] → sX15_isBecoming_138 F k_62 f h x0 x1 x2 x3 x4 x5 x6 x7 = some o → W p l e (rm 2 49) s m args below meth c H locs 0 0 (MQ below (QI X h0 o.1 o.2) args s 0 0 (aA (eB X))) (F0 m 138 ls []) := by
  intro f
  induction f with
  | zero =>
    intro h x0 x1 x2 x3 x4 x5 x6 x7 H locs k_x0 k_x1 hkm hW hZ ls hl hE
    rw [sX15_isBecoming_138] at hE
    cases hE
  | succ f ih =>
    intro h x0 x1 x2 x3 x4 x5 x6 x7 H locs k_x0 k_x1 hkm hW hZ ls hl hE
    rw [sX15_isBecoming_138] at hE
    have hk_138 : ∀ (h : Hp) (x0 : Nat) (x1 : Nat) (x2 : Int32) (x3 : Int32) (x4 : Int32) (x5 : Int32) (x6 : Int32) (x7 : Int32) (H : Heap) (locs : List Loc), hK h x0 = 15 → hK h x1 = 16 → Km h0 h → Wx X h H → va_S (aA (eB X)) s.heap H locs → ∀ (ls : Array Slot), lv_has ls 8 [(0, .ref x0), (1, .ref x1), (2, .int x2), (3, .int x3), (4, .int x4), (5, .int x5), (6, .int x6), (7, .int x7)] → sX15_isBecoming_138 F k_62 f h x0 x1 x2 x3 x4 x5 x6 x7 = some o → W p l e (rm 2 49) s m args below meth c H locs 0 0 (MQ below (QI X h0 o.1 o.2) args s 0 0 (aA (eB X))) (F0 m 138 ls []) := fun h x0 x1 x2 x3 x4 x5 x6 x7 H locs k_x0 k_x1 a b c ls hl hE => ih k_x0 k_x1 a b c ls hl hE
    refine lv_iload C.1 C.2.1 dX15_isBecoming_138 (lv_at hl 7 rfl) ?_
    refine lv_iload C.1 C.2.1 dX15_isBecoming_140 (lv_at hl 4 rfl) ?_
    refine lv_icmp_ge (tgt := 181) C.1 C.2.1 dX15_isBecoming_142 (by decide) (fun c_1 => ?_) (fun c_1 => ?_)
    · have hE := br_p hE c_1
      refine lv_iload C.1 C.2.1 dX15_isBecoming_181 (lv_at hl 6 rfl) ?_
      refine lv_if_ne (tgt := 188) C.1 C.2.1 dX15_isBecoming_183 (by decide) (fun c_2 => ?_) (fun c_2 => ?_)
      · have hE := br_n hE c_2
        refine lv_aload_n C.1 C.2.1 dX15_isBecoming_188 rfl (lv_at hl 0 rfl) ?_
        obtain ⟨r_3, er_3, hE⟩ := cl_e hE
        refine gf_X15_57 C hW k_x0 er_3 dX15_isBecoming_189 (fun k_r_3 => ?_)
        obtain ⟨r_4, er_4, hE⟩ := cl_e hE
        refine gf_X15_223 C hW k_r_3 er_4 dX15_isBecoming_192 (fun k_r_4 => ?_)
        refine lv_bipush (v := (6 : Int32)) C.1 C.2.1 dX15_isBecoming_195 (by decide) ?_
        refine lv_iload_n C.1 C.2.1 dX15_isBecoming_197 rfl (lv_at hl 3 rfl) ?_
        refine lv_imul C.1 C.2.1 dX15_isBecoming_198 ?_
        refine lv_iload C.1 C.2.1 dX15_isBecoming_199 (lv_at hl 4 rfl) ?_
        refine lv_iadd C.1 C.2.1 dX15_isBecoming_201 ?_
        refine lv_iload C.1 C.2.1 dX15_isBecoming_202 (lv_at hl 5 rfl) ?_
        obtain ⟨g_5, hE⟩ := gd_e hE
        obtain ⟨h_6, eh_6, hE⟩ := nm_e2 hE
        refine y_iast C hW hZ k_r_4 g_5 eh_6 dX15_isBecoming_204 (fun _ _ hW km hZ => ?_)
        replace hkm := hkm.tr km
        replace k_x0 := km.at k_x0 (by decide)
        replace k_x1 := km.at k_x1 (by decide)
        obtain ⟨v_7, ev_7, hE⟩ := nm_e2 hE
        refine lv_iinc (v := v_7) (lv' := [(4, .int v_7), (0, .ref x0), (1, .ref x1), (2, .int x2), (3, .int x3), (5, .int x5), (6, .int x6), (7, .int x7)]) C.1 C.2.1 dX15_isBecoming_205 hl (k := 4) rfl (by rw [ev_7]; rfl) (by decide) rfl (fun ls hl => ?_)
        refine lv_aload_n C.1 C.2.1 dX15_isBecoming_208 rfl (lv_at hl 1 rfl) ?_
        refine lv_aload_n C.1 C.2.1 dX15_isBecoming_209 rfl (lv_at hl 2 rfl) ?_
        refine lv_iload_n C.1 C.2.1 dX15_isBecoming_210 rfl (lv_at hl 3 rfl) ?_
        obtain ⟨o_8, eo_8, hE⟩ := cl_e hE
        refine x_kV (o := o_8) (z_runV (As := [.ref x1, .int x2]) (rest := []) C (ct_X15_nextToken l X F k_x0 k_x1 eo_8) cw_X15_74 hW hZ k_x0 (by decide) rfl rfl rfl hl.1 (Nat.le_of_ble_eq_true rfl) rfl dX15_isBecoming_211 ⟨Nat.le_of_ble_eq_true rfl, Nat.le_of_ble_eq_true rfl⟩ ⟨Nat.le_refl _, Nat.le_refl _⟩) hZ (fun _ _ hW km hZ => ?_)
        replace hkm := hkm.tr km
        replace k_x0 := km.at k_x0 (by decide)
        replace k_x1 := km.at k_x1 (by decide)
        refine lv_goto (tgt := 62) C.1 C.2.1 dX15_isBecoming_214 (by decide) ?_
        exact hk_62 _ _ _ _ _ _ _ _ k_x0 k_x1 hkm hW hZ _ (lv_sub hl [1, 2, 3, 4, 0] rfl) hE
      · have hE := br_p hE c_2
        refine lv_iconst (v := (0 : Int32)) C.1 C.2.1 dX15_isBecoming_186 (by decide) ?_
        exact x_iret C rfl (by decide) hW hZ hkm hE dX15_isBecoming_187
    · have hE := br_n hE c_1
      refine lv_iload C.1 C.2.1 dX15_isBecoming_145 (lv_at hl 6 rfl) ?_
      refine lv_aload_n C.1 C.2.1 dX15_isBecoming_147 rfl (lv_at hl 0 rfl) ?_
      obtain ⟨r_9, er_9, hE⟩ := cl_e hE
      refine gf_X15_57 C hW k_x0 er_9 dX15_isBecoming_148 (fun k_r_9 => ?_)
      obtain ⟨r_10, er_10, hE⟩ := cl_e hE
      refine gf_X15_223 C hW k_r_9 er_10 dX15_isBecoming_151 (fun k_r_10 => ?_)
      refine lv_bipush (v := (6 : Int32)) C.1 C.2.1 dX15_isBecoming_154 (by decide) ?_
      refine lv_iload_n C.1 C.2.1 dX15_isBecoming_156 rfl (lv_at hl 3 rfl) ?_
      refine lv_imul C.1 C.2.1 dX15_isBecoming_157 ?_
      refine lv_iload C.1 C.2.1 dX15_isBecoming_158 (lv_at hl 7 rfl) ?_
      refine lv_iadd C.1 C.2.1 dX15_isBecoming_160 ?_
      obtain ⟨g_11, hE⟩ := gd_e hE
      refine y_iald C hW k_r_10 g_11 dX15_isBecoming_161 ?_
      refine lv_iload C.1 C.2.1 dX15_isBecoming_162 (lv_at hl 5 rfl) ?_
      refine lv_icmp_eq (tgt := 171) C.1 C.2.1 dX15_isBecoming_164 (by decide) (fun c_12 => ?_) (fun c_12 => ?_)
      · have hE := br_p hE c_12
        refine lv_iconst (v := (0 : Int32)) C.1 C.2.1 dX15_isBecoming_171 (by decide) ?_
        exact bX15_isBecoming_172 C hk_62 hk_138 k_x0 k_x1 hkm hW hZ _ (lv_sub hl [0, 1, 2, 3, 4, 5, 7] rfl) hE
      · have hE := br_n hE c_12
        refine lv_iconst (v := (1 : Int32)) C.1 C.2.1 dX15_isBecoming_167 (by decide) ?_
        refine lv_goto (tgt := 172) C.1 C.2.1 dX15_isBecoming_168 (by decide) ?_
        exact bX15_isBecoming_172 C hk_62 hk_138 k_x0 k_x1 hkm hW hZ _ (lv_sub hl [0, 1, 2, 3, 4, 5, 7] rfl) hE
set_option maxRecDepth 20000 in
theorem bX15_isBecoming_133 {p : Program} {l : Launch} {e : Env} {s : State} {m : MethodId} {args : Array Value} {below : List Frame} {meth : Method} {c : Code} {X : Ec} {h0 : Hp} {o : Int32 × Hp} {k_62 : Hp → Nat → Nat → Int32 → Int32 → Int32 → Option (Int32 × Hp)} {F : Nat} (C : Cx X p s m args meth c RX15 cX15_isBecoming 8 (some .boolean) "isBecoming") (hk_62 : ∀ (h : Hp) (x0 : Nat) (x1 : Nat) (x2 : Int32) (x3 : Int32) (x4 : Int32) (H : Heap) (locs : List Loc), hK h x0 = 15 → hK h x1 = 16 → Km h0 h → Wx X h H → va_S (aA (eB X)) s.heap H locs → ∀ (ls : Array Slot), lv_has ls 8 [(0, .ref x0), (1, .ref x1), (2, .int x2), (3, .int x3), (4, .int x4)] → k_62 h x0 x1 x2 x3 x4 = some o → W p l e (rm 2 49) s m args below meth c H locs 0 0 (MQ below (QI X h0 o.1 o.2) args s 0 0 (aA (eB X))) (F0 m 62 ls [])) {h : Hp} {x0 : Nat} {x1 : Nat} {x2 : Int32} {x3 : Int32} {x4 : Int32} {x5 : Int32} {t0 : Int32} {H : Heap} {locs : List Loc} (k_x0 : hK h x0 = 15) (k_x1 : hK h x1 = 16) (hkm : Km h0 h) (hW : Wx X h H) (hZ : va_S (aA (eB X)) s.heap H locs) (ls : Array Slot) (hl : lv_has ls 8 [(0, .ref x0), (1, .ref x1), (2, .int x2), (3, .int x3), (4, .int x4), (5, .int x5)]) (hE : sX15_isBecoming_133 F k_62 h x0 x1 x2 x3 x4 x5 t0 = some o) : W p l e (rm 2 49) s m args below meth c H locs 0 0 (MQ below (QI X h0 o.1 o.2) args s 0 0 (aA (eB X))) (F0 m 133 ls [.int t0]) := by
  refine lv_istore (lv' := [(6, .int t0), (0, .ref x0), (1, .ref x1), (2, .int x2), (3, .int x3), (4, .int x4), (5, .int x5)]) C.1 C.2.1 dX15_isBecoming_133 hl (by decide) rfl (fun ls hl => ?_)
  refine lv_iconst (v := (0 : Int32)) C.1 C.2.1 dX15_isBecoming_135 (by decide) ?_
  refine lv_istore (lv' := [(7, .int (0 : Int32)), (6, .int t0), (0, .ref x0), (1, .ref x1), (2, .int x2), (3, .int x3), (4, .int x4), (5, .int x5)]) C.1 C.2.1 dX15_isBecoming_136 hl (by decide) rfl (fun ls hl => ?_)
  exact bX15_isBecoming_138 C hk_62 F k_x0 k_x1 hkm hW hZ _ (lv_sub hl [2, 3, 4, 5, 6, 7, 1, 0] rfl) hE
set_option maxRecDepth 20000 in
theorem bX15_isBecoming_132 {p : Program} {l : Launch} {e : Env} {s : State} {m : MethodId} {args : Array Value} {below : List Frame} {meth : Method} {c : Code} {X : Ec} {h0 : Hp} {o : Int32 × Hp} {k_62 : Hp → Nat → Nat → Int32 → Int32 → Int32 → Option (Int32 × Hp)} {F : Nat} (C : Cx X p s m args meth c RX15 cX15_isBecoming 8 (some .boolean) "isBecoming") (hk_62 : ∀ (h : Hp) (x0 : Nat) (x1 : Nat) (x2 : Int32) (x3 : Int32) (x4 : Int32) (H : Heap) (locs : List Loc), hK h x0 = 15 → hK h x1 = 16 → Km h0 h → Wx X h H → va_S (aA (eB X)) s.heap H locs → ∀ (ls : Array Slot), lv_has ls 8 [(0, .ref x0), (1, .ref x1), (2, .int x2), (3, .int x3), (4, .int x4)] → k_62 h x0 x1 x2 x3 x4 = some o → W p l e (rm 2 49) s m args below meth c H locs 0 0 (MQ below (QI X h0 o.1 o.2) args s 0 0 (aA (eB X))) (F0 m 62 ls [])) {h : Hp} {x0 : Nat} {x1 : Nat} {x2 : Int32} {x3 : Int32} {x4 : Int32} {x5 : Int32} {H : Heap} {locs : List Loc} (k_x0 : hK h x0 = 15) (k_x1 : hK h x1 = 16) (hkm : Km h0 h) (hW : Wx X h H) (hZ : va_S (aA (eB X)) s.heap H locs) (ls : Array Slot) (hl : lv_has ls 8 [(0, .ref x0), (1, .ref x1), (2, .int x2), (3, .int x3), (4, .int x4), (5, .int x5)]) (hE : sX15_isBecoming_132 F k_62 h x0 x1 x2 x3 x4 x5 = some o) : W p l e (rm 2 49) s m args below meth c H locs 0 0 (MQ below (QI X h0 o.1 o.2) args s 0 0 (aA (eB X))) (F0 m 132 ls []) := by
  refine lv_iconst (v := (0 : Int32)) C.1 C.2.1 dX15_isBecoming_132 (by decide) ?_
  exact bX15_isBecoming_133 C hk_62 k_x0 k_x1 hkm hW hZ _ (lv_sub hl [0, 1, 2, 3, 4, 5] rfl) hE
set_option maxRecDepth 20000 in
theorem bX15_isBecoming_77 {p : Program} {l : Launch} {e : Env} {s : State} {m : MethodId} {args : Array Value} {below : List Frame} {meth : Method} {c : Code} {X : Ec} {h0 : Hp} {o : Int32 × Hp} {k_62 : Hp → Nat → Nat → Int32 → Int32 → Int32 → Option (Int32 × Hp)} {F : Nat} (C : Cx X p s m args meth c RX15 cX15_isBecoming 8 (some .boolean) "isBecoming") (hk_62 : ∀ (h : Hp) (x0 : Nat) (x1 : Nat) (x2 : Int32) (x3 : Int32) (x4 : Int32) (H : Heap) (locs : List Loc), hK h x0 = 15 → hK h x1 = 16 → Km h0 h → Wx X h H → va_S (aA (eB X)) s.heap H locs → ∀ (ls : Array Slot), lv_has ls 8 [(0, .ref x0), (1, .ref x1), (2, .int x2), (3, .int x3), (4, .int x4)] → k_62 h x0 x1 x2 x3 x4 = some o → W p l e (rm 2 49) s m args below meth c H locs 0 0 (MQ below (QI X h0 o.1 o.2) args s 0 0 (aA (eB X))) (F0 m 62 ls [])) {h : Hp} {x0 : Nat} {x1 : Nat} {x2 : Int32} {x3 : Int32} {x4 : Int32} {H : Heap} {locs : List Loc} (k_x0 : hK h x0 = 15) (k_x1 : hK h x1 = 16) (hkm : Km h0 h) (hW : Wx X h H) (hZ : va_S (aA (eB X)) s.heap H locs) (ls : Array Slot) (hl : lv_has ls 8 [(0, .ref x0), (1, .ref x1), (2, .int x2), (3, .int x3), (4, .int x4)]) (hE : sX15_isBecoming_77 F k_62 h x0 x1 x2 x3 x4 = some o) : W p l e (rm 2 49) s m args below meth c H locs 0 0 (MQ below (QI X h0 o.1 o.2) args s 0 0 (aA (eB X))) (F0 m 77 ls []) := by
  refine lv_aload_n C.1 C.2.1 dX15_isBecoming_77 rfl (lv_at hl 0 rfl) ?_
  refine lv_aload_n C.1 C.2.1 dX15_isBecoming_78 rfl (lv_at hl 1 rfl) ?_
  obtain ⟨o_1, eo_1, hE⟩ := cl_e hE
  refine x_kI (o := o_1) (z_runV (As := [.ref x1]) (rest := []) C (ct_X15_manAt l X F k_x0 k_x1 eo_1) cw_X15_165 hW hZ k_x0 (by decide) rfl rfl rfl hl.1 (Nat.le_of_ble_eq_true rfl) rfl dX15_isBecoming_79 ⟨Nat.le_of_ble_eq_true rfl, Nat.le_of_ble_eq_true rfl⟩ ⟨Nat.le_refl _, Nat.le_refl _⟩) hZ (fun _ _ hW km hZ => ?_)
  replace hkm := hkm.tr km
  replace k_x0 := km.at k_x0 (by decide)
  replace k_x1 := km.at k_x1 (by decide)
  refine lv_istore (lv' := [(5, .int o_1.1), (0, .ref x0), (1, .ref x1), (2, .int x2), (3, .int x3), (4, .int x4)]) C.1 C.2.1 dX15_isBecoming_82 hl (by decide) rfl (fun ls hl => ?_)
  refine lv_iload C.1 C.2.1 dX15_isBecoming_84 (lv_at hl 0 rfl) ?_
  refine lv_iconst (v := (-1 : Int32)) C.1 C.2.1 dX15_isBecoming_86 (by decide) ?_
  refine lv_icmp_eq (tgt := 132) C.1 C.2.1 dX15_isBecoming_87 (by decide) (fun c_2 => ?_) (fun c_2 => ?_)
  · have hE := br_p hE c_2
    exact bX15_isBecoming_132 C hk_62 k_x0 k_x1 hkm hW hZ _ (lv_sub hl [1, 2, 3, 4, 5, 0] rfl) hE
  · have hE := br_n hE c_2
    refine lv_iload C.1 C.2.1 dX15_isBecoming_90 (lv_at hl 0 rfl) ?_
    refine lv_iload_n C.1 C.2.1 dX15_isBecoming_92 rfl (lv_at hl 4 rfl) ?_
    refine lv_icmp_eq (tgt := 132) C.1 C.2.1 dX15_isBecoming_93 (by decide) (fun c_3 => ?_) (fun c_3 => ?_)
    · have hE := br_p hE c_3
      exact bX15_isBecoming_132 C hk_62 k_x0 k_x1 hkm hW hZ _ (lv_sub hl [1, 2, 3, 4, 5, 0] rfl) hE
    · have hE := br_n hE c_3
      refine lv_iload C.1 C.2.1 dX15_isBecoming_96 (lv_at hl 0 rfl) ?_
      refine lv_aload_n C.1 C.2.1 dX15_isBecoming_98 rfl (lv_at hl 1 rfl) ?_
      obtain ⟨r_4, er_4, hE⟩ := cl_e hE
      refine gf_X15_57 C hW k_x0 er_4 dX15_isBecoming_99 (fun k_r_4 => ?_)
      refine gf_X15_221 C hW k_r_4 dX15_isBecoming_102 ?_
      refine lv_icmp_eq (tgt := 132) C.1 C.2.1 dX15_isBecoming_105 (by decide) (fun c_5 => ?_) (fun c_5 => ?_)
      · have hE := br_p hE c_5
        exact bX15_isBecoming_132 C hk_62 k_x0 k_x1 hkm hW hZ _ (lv_sub hl [1, 2, 3, 4, 5, 0] rfl) hE
      · have hE := br_n hE c_5
        refine lv_aload_n C.1 C.2.1 dX15_isBecoming_108 rfl (lv_at hl 1 rfl) ?_
        obtain ⟨r_6, er_6, hE⟩ := cl_e hE
        refine gf_X15_57 C hW k_x0 er_6 dX15_isBecoming_109 (fun k_r_6 => ?_)
        obtain ⟨r_7, er_7, hE⟩ := cl_e hE
        refine gf_X15_215 C hW k_r_6 er_7 dX15_isBecoming_112 (fun k_r_7 => ?_)
        refine lv_iload C.1 C.2.1 dX15_isBecoming_115 (lv_at hl 0 rfl) ?_
        obtain ⟨g_8, hE⟩ := gd_e hE
        refine y_iald C hW k_r_7 g_8 dX15_isBecoming_117 ?_
        refine lv_if_ne (tgt := 132) C.1 C.2.1 dX15_isBecoming_118 (by decide) (fun c_9 => ?_) (fun c_9 => ?_)
        · have hE := br_n hE c_9
          exact bX15_isBecoming_132 C hk_62 k_x0 k_x1 hkm hW hZ _ (lv_sub hl [1, 2, 3, 4, 5, 0] rfl) hE
        · have hE := br_p hE c_9
          refine lv_iload C.1 C.2.1 dX15_isBecoming_121 (lv_at hl 5 rfl) ?_
          refine lv_bipush (v := (6 : Int32)) C.1 C.2.1 dX15_isBecoming_123 (by decide) ?_
          refine lv_icmp_ge (tgt := 132) C.1 C.2.1 dX15_isBecoming_125 (by decide) (fun c_10 => ?_) (fun c_10 => ?_)
          · have hE := br_p hE c_10
            exact bX15_isBecoming_132 C hk_62 k_x0 k_x1 hkm hW hZ _ (lv_sub hl [1, 2, 3, 4, 5, 0] rfl) hE
          · have hE := br_n hE c_10
            refine lv_iconst (v := (1 : Int32)) C.1 C.2.1 dX15_isBecoming_128 (by decide) ?_
            refine lv_goto (tgt := 133) C.1 C.2.1 dX15_isBecoming_129 (by decide) ?_
            exact bX15_isBecoming_133 C hk_62 k_x0 k_x1 hkm hW hZ _ (lv_sub hl [1, 2, 3, 4, 5, 0] rfl) hE
set_option maxRecDepth 20000 in
theorem bX15_isBecoming_254 {p : Program} {l : Launch} {e : Env} {s : State} {m : MethodId} {args : Array Value} {below : List Frame} {meth : Method} {c : Code} {X : Ec} {h0 : Hp} {o : Int32 × Hp} {F : Nat} (C : Cx X p s m args meth c RX15 cX15_isBecoming 8 (some .boolean) "isBecoming") {h : Hp} {t0 : Int32} {t1 : Nat} {H : Heap} {locs : List Loc} (k_t1 : hK h t1 = 14) (hkm : Km h0 h) (hW : Wx X h H) (hZ : va_S (aA (eB X)) s.heap H locs) (ls : Array Slot) (hl : lv_has ls 8 []) (hE : sX15_isBecoming_254 F h  t0 t1 = some o) : W p l e (rm 2 49) s m args below meth c H locs 0 0 (MQ below (QI X h0 o.1 o.2) args s 0 0 (aA (eB X))) (F0 m 254 ls [.int t0, .ref t1]) := by
  obtain ⟨h_1, eh_1, hE⟩ := nm_e2 hE
  refine pf_X15_225 C hW hZ k_t1 eh_1 dX15_isBecoming_254 (fun _ _ hW km hZ => ?_)
  replace hkm := hkm.tr km
  refine lv_iconst (v := (1 : Int32)) C.1 C.2.1 dX15_isBecoming_257 (by decide) ?_
  exact x_iret C rfl (by decide) hW hZ hkm hE dX15_isBecoming_258
set_option maxRecDepth 20000 in
theorem bX15_isBecoming_62 {p : Program} {l : Launch} {e : Env} {s : State} {m : MethodId} {args : Array Value} {below : List Frame} {meth : Method} {c : Code} {X : Ec} {h0 : Hp} {o : Int32 × Hp} {F : Nat} (C : Cx X p s m args meth c RX15 cX15_isBecoming 8 (some .boolean) "isBecoming") : ∀ (f : Nat) {h : Hp} {x0 : Nat} {x1 : Nat} {x2 : Int32} {x3 : Int32} {x4 : Int32} {H : Heap} {locs : List Loc} (k_x0 : hK h x0 = 15) (k_x1 : hK h x1 = 16), Km h0 h → Wx X h H → va_S (aA (eB X)) s.heap H locs → ∀ (ls : Array Slot), lv_has ls 8 [(0, .ref x0), (1, .ref x1), (2, .int x2), (3, .int x3), (4, .int x4)] → sX15_isBecoming_62 F f h x0 x1 x2 x3 x4 = some o → W p l e (rm 2 49) s m args below meth c H locs 0 0 (MQ below (QI X h0 o.1 o.2) args s 0 0 (aA (eB X))) (F0 m 62 ls []) := by
  intro f
  induction f with
  | zero =>
    intro h x0 x1 x2 x3 x4 H locs k_x0 k_x1 hkm hW hZ ls hl hE
    rw [sX15_isBecoming_62] at hE
    cases hE
  | succ f ih =>
    intro h x0 x1 x2 x3 x4 H locs k_x0 k_x1 hkm hW hZ ls hl hE
    rw [sX15_isBecoming_62] at hE
    have hk_62 : ∀ (h : Hp) (x0 : Nat) (x1 : Nat) (x2 : Int32) (x3 : Int32) (x4 : Int32) (H : Heap) (locs : List Loc), hK h x0 = 15 → hK h x1 = 16 → Km h0 h → Wx X h H → va_S (aA (eB X)) s.heap H locs → ∀ (ls : Array Slot), lv_has ls 8 [(0, .ref x0), (1, .ref x1), (2, .int x2), (3, .int x3), (4, .int x4)] → sX15_isBecoming_62 F f h x0 x1 x2 x3 x4 = some o → W p l e (rm 2 49) s m args below meth c H locs 0 0 (MQ below (QI X h0 o.1 o.2) args s 0 0 (aA (eB X))) (F0 m 62 ls []) := fun h x0 x1 x2 x3 x4 H locs k_x0 k_x1 a b c ls hl hE => ih k_x0 k_x1 a b c ls hl hE
    refine lv_iload C.1 C.2.1 dX15_isBecoming_62 (lv_at hl 4 rfl) ?_
    refine lv_if_eq (tgt := 77) C.1 C.2.1 dX15_isBecoming_64 (by decide) (fun c_1 => ?_) (fun c_1 => ?_)
    · have hE := br_p hE c_1
      exact bX15_isBecoming_77 C hk_62 k_x0 k_x1 hkm hW hZ _ (lv_sub hl [0, 1, 2, 3, 4] rfl) hE
    · have hE := br_n hE c_1
      refine lv_aload_n C.1 C.2.1 dX15_isBecoming_67 rfl (lv_at hl 0 rfl) ?_
      refine lv_aload_n C.1 C.2.1 dX15_isBecoming_68 rfl (lv_at hl 1 rfl) ?_
      refine lv_bipush (v := (59 : Int32)) C.1 C.2.1 dX15_isBecoming_69 (by decide) ?_
      obtain ⟨o_2, eo_2, hE⟩ := cl_e hE
      refine x_kI (o := o_2) (z_runV (As := [.ref x1, .int (59 : Int32)]) (rest := []) C (ct_X15_isSign l X k_x0 k_x1 eo_2) cw_X15_94 hW hZ k_x0 (by decide) rfl rfl rfl hl.1 (Nat.le_of_ble_eq_true rfl) rfl dX15_isBecoming_71 ⟨Nat.le_of_ble_eq_true rfl, Nat.le_of_ble_eq_true rfl⟩ ⟨Nat.le_refl _, Nat.le_refl _⟩) hZ (fun _ _ hW km hZ => ?_)
      replace hkm := hkm.tr km
      replace k_x0 := km.at k_x0 (by decide)
      replace k_x1 := km.at k_x1 (by decide)
      refine lv_if_ne (tgt := 217) C.1 C.2.1 dX15_isBecoming_74 (by decide) (fun c_3 => ?_) (fun c_3 => ?_)
      · have hE := br_n hE c_3
        refine lv_aload_n C.1 C.2.1 dX15_isBecoming_217 rfl (lv_at hl 0 rfl) ?_
        obtain ⟨r_4, er_4, hE⟩ := cl_e hE
        refine gf_X15_57 C hW k_x0 er_4 dX15_isBecoming_218 (fun k_r_4 => ?_)
        obtain ⟨r_5, er_5, hE⟩ := cl_e hE
        refine gf_X15_215 C hW k_r_4 er_5 dX15_isBecoming_221 (fun k_r_5 => ?_)
        refine lv_iload_n C.1 C.2.1 dX15_isBecoming_224 rfl (lv_at hl 3 rfl) ?_
        refine lv_iload C.1 C.2.1 dX15_isBecoming_225 (lv_at hl 4 rfl) ?_
        obtain ⟨g_6, hE⟩ := gd_e hE
        obtain ⟨h_7, eh_7, hE⟩ := nm_e2 hE
        refine y_iast C hW hZ k_r_5 g_6 eh_7 dX15_isBecoming_227 (fun _ _ hW km hZ => ?_)
        replace hkm := hkm.tr km
        replace k_x0 := km.at k_x0 (by decide)
        replace k_x1 := km.at k_x1 (by decide)
        refine lv_aload_n C.1 C.2.1 dX15_isBecoming_228 rfl (lv_at hl 0 rfl) ?_
        obtain ⟨r_8, er_8, hE⟩ := cl_e hE
        refine gf_X15_57 C hW k_x0 er_8 dX15_isBecoming_229 (fun k_r_8 => ?_)
        refine lv_aload_n C.1 C.2.1 dX15_isBecoming_232 rfl (lv_at hl 0 rfl) ?_
        obtain ⟨r_9, er_9, hE⟩ := cl_e hE
        refine gf_X15_57 C hW k_x0 er_9 dX15_isBecoming_233 (fun k_r_9 => ?_)
        refine gf_X15_225 C hW k_r_9 dX15_isBecoming_236 ?_
        refine lv_iconst (v := (-1 : Int32)) C.1 C.2.1 dX15_isBecoming_239 (by decide) ?_
        refine lv_icmp_ne (tgt := 247) C.1 C.2.1 dX15_isBecoming_240 (by decide) (fun c_10 => ?_) (fun c_10 => ?_)
        · have hE := br_n hE c_10
          refine lv_aload_n C.1 C.2.1 dX15_isBecoming_247 rfl (lv_at hl 0 rfl) ?_
          obtain ⟨r_11, er_11, hE⟩ := cl_e hE
          refine gf_X15_57 C hW k_x0 er_11 dX15_isBecoming_248 (fun k_r_11 => ?_)
          refine gf_X15_225 C hW k_r_11 dX15_isBecoming_251 ?_
          exact bX15_isBecoming_254 C k_r_8 hkm hW hZ _ (lv_sub hl [] rfl) hE
        · have hE := br_p hE c_10
          refine lv_iload_n C.1 C.2.1 dX15_isBecoming_243 rfl (lv_at hl 3 rfl) ?_
          refine lv_goto (tgt := 254) C.1 C.2.1 dX15_isBecoming_244 (by decide) ?_
          exact bX15_isBecoming_254 C k_r_8 hkm hW hZ _ (lv_sub hl [] rfl) hE
      · have hE := br_p hE c_3
        exact bX15_isBecoming_77 C hk_62 k_x0 k_x1 hkm hW hZ _ (lv_sub hl [0, 1, 2, 3, 4] rfl) hE
set_option maxRecDepth 20000 in
theorem ct_X15_isBecoming (l : Launch) (X : Ec) (F : Nat) {h : Hp} {x0 : Nat} {x1 : Nat} {x2 : Int32} {o : Int32 × Hp} (k_x0 : hK h x0 = 15) (k_x1 : hK h x1 = 16) (hE : sX15_isBecoming F h x0 x1 x2 = some o) : MetI l yX15_isBecoming cX15_isBecoming 8 (some .boolean) 2 49 X [.ref x0, .ref x1, .int x2] h o := by
  refine x_met (by decide) (Nat.le_of_ble_eq_true rfl) ?_
  intro p e s m below meth c ls C hl hW hZ
  have hl : lv_has ls 8 [(0, .ref x0), (1, .ref x1), (2, .int x2)] := hl
  have hkm : Km h h := Km.rf h
  refine lv_aload_n C.1 C.2.1 dX15_isBecoming_0 rfl (lv_at hl 0 rfl) ?_
  refine lv_aload_n C.1 C.2.1 dX15_isBecoming_1 rfl (lv_at hl 1 rfl) ?_
  refine lv_iload_n C.1 C.2.1 dX15_isBecoming_2 rfl (lv_at hl 2 rfl) ?_
  obtain ⟨o_1, eo_1, hE⟩ := cl_e hE
  refine x_kV (o := o_1) (z_runV (As := [.ref x1, .int x2]) (rest := []) C (ct_X15_nextToken l X F k_x0 k_x1 eo_1) cw_X15_74 hW hZ k_x0 (by decide) rfl rfl rfl hl.1 (Nat.le_of_ble_eq_true rfl) rfl dX15_isBecoming_3 ⟨Nat.le_of_ble_eq_true rfl, Nat.le_of_ble_eq_true rfl⟩ ⟨Nat.le_refl _, Nat.le_refl _⟩) hZ (fun _ _ hW km hZ => ?_)
  replace hkm := hkm.tr km
  replace k_x0 := km.at k_x0 (by decide)
  replace k_x1 := km.at k_x1 (by decide)
  refine lv_aload_n C.1 C.2.1 dX15_isBecoming_6 rfl (lv_at hl 0 rfl) ?_
  refine lv_aload_n C.1 C.2.1 dX15_isBecoming_7 rfl (lv_at hl 1 rfl) ?_
  obtain ⟨o_2, eo_2, hE⟩ := cl_e hE
  refine x_kI (o := o_2) (z_runV (As := [.ref x1]) (rest := []) C (ct_X15_manAt l X F k_x0 k_x1 eo_2) cw_X15_165 hW hZ k_x0 (by decide) rfl rfl rfl hl.1 (Nat.le_of_ble_eq_true rfl) rfl dX15_isBecoming_8 ⟨Nat.le_of_ble_eq_true rfl, Nat.le_of_ble_eq_true rfl⟩ ⟨Nat.le_refl _, Nat.le_refl _⟩) hZ (fun _ _ hW km hZ => ?_)
  replace hkm := hkm.tr km
  replace k_x0 := km.at k_x0 (by decide)
  replace k_x1 := km.at k_x1 (by decide)
  refine lv_istore_n (lv' := [(3, .int o_2.1), (0, .ref x0), (1, .ref x1), (2, .int x2)]) C.1 C.2.1 dX15_isBecoming_11 rfl hl (by decide) rfl (fun ls hl => ?_)
  refine lv_iload_n C.1 C.2.1 dX15_isBecoming_12 rfl (lv_at hl 0 rfl) ?_
  refine lv_iconst (v := (-1 : Int32)) C.1 C.2.1 dX15_isBecoming_13 (by decide) ?_
  refine lv_icmp_eq (tgt := 51) C.1 C.2.1 dX15_isBecoming_14 (by decide) (fun c_3 => ?_) (fun c_3 => ?_)
  · have hE := br_p hE c_3
    exact bX15_isBecoming_51 C hkm hW hZ _ (lv_sub hl [] rfl) hE
  · have hE := br_n hE c_3
    refine lv_iload_n C.1 C.2.1 dX15_isBecoming_17 rfl (lv_at hl 0 rfl) ?_
    refine lv_aload_n C.1 C.2.1 dX15_isBecoming_18 rfl (lv_at hl 1 rfl) ?_
    obtain ⟨r_4, er_4, hE⟩ := cl_e hE
    refine gf_X15_57 C hW k_x0 er_4 dX15_isBecoming_19 (fun k_r_4 => ?_)
    refine gf_X15_221 C hW k_r_4 dX15_isBecoming_22 ?_
    refine lv_icmp_eq (tgt := 51) C.1 C.2.1 dX15_isBecoming_25 (by decide) (fun c_5 => ?_) (fun c_5 => ?_)
    · have hE := br_p hE c_5
      exact bX15_isBecoming_51 C hkm hW hZ _ (lv_sub hl [] rfl) hE
    · have hE := br_n hE c_5
      refine lv_aload_n C.1 C.2.1 dX15_isBecoming_28 rfl (lv_at hl 1 rfl) ?_
      obtain ⟨r_6, er_6, hE⟩ := cl_e hE
      refine gf_X15_57 C hW k_x0 er_6 dX15_isBecoming_29 (fun k_r_6 => ?_)
      obtain ⟨r_7, er_7, hE⟩ := cl_e hE
      refine gf_X15_215 C hW k_r_6 er_7 dX15_isBecoming_32 (fun k_r_7 => ?_)
      refine lv_iload_n C.1 C.2.1 dX15_isBecoming_35 rfl (lv_at hl 0 rfl) ?_
      obtain ⟨g_8, hE⟩ := gd_e hE
      refine y_iald C hW k_r_7 g_8 dX15_isBecoming_36 ?_
      refine lv_if_gt (tgt := 51) C.1 C.2.1 dX15_isBecoming_37 (by decide) (fun c_9 => ?_) (fun c_9 => ?_)
      · have hE := br_p hE c_9
        exact bX15_isBecoming_51 C hkm hW hZ _ (lv_sub hl [] rfl) hE
      · have hE := br_n hE c_9
        refine lv_aload_n C.1 C.2.1 dX15_isBecoming_40 rfl (lv_at hl 1 rfl) ?_
        obtain ⟨r_10, er_10, hE⟩ := cl_e hE
        refine gf_X15_57 C hW k_x0 er_10 dX15_isBecoming_41 (fun k_r_10 => ?_)
        refine lv_iload_n C.1 C.2.1 dX15_isBecoming_44 rfl (lv_at hl 0 rfl) ?_
        obtain ⟨o_11, eo_11, hE⟩ := cl_e hE
        refine x_kI (o := o_11) (z_runV (As := [.int o_2.1]) (rest := []) C (ct_X14_isBecome l X F k_r_10 eo_11) cw_X15_218 hW hZ k_r_10 (by decide) rfl rfl rfl hl.1 (Nat.le_of_ble_eq_true rfl) rfl dX15_isBecoming_45 ⟨Nat.le_of_ble_eq_true rfl, Nat.le_of_ble_eq_true rfl⟩ ⟨Nat.le_refl _, Nat.le_refl _⟩) hZ (fun _ _ hW km hZ => ?_)
        replace hkm := hkm.tr km
        replace k_x0 := km.at k_x0 (by decide)
        replace k_x1 := km.at k_x1 (by decide)
        refine lv_if_eq (tgt := 53) C.1 C.2.1 dX15_isBecoming_48 (by decide) (fun c_12 => ?_) (fun c_12 => ?_)
        · have hE := br_p hE c_12
          refine lv_aload_n C.1 C.2.1 dX15_isBecoming_53 rfl (lv_at hl 1 rfl) ?_
          refine lv_aload_n C.1 C.2.1 dX15_isBecoming_54 rfl (lv_at hl 2 rfl) ?_
          refine lv_iload_n C.1 C.2.1 dX15_isBecoming_55 rfl (lv_at hl 3 rfl) ?_
          obtain ⟨o_13, eo_13, hE⟩ := cl_e hE
          refine x_kV (o := o_13) (z_runV (As := [.ref x1, .int x2]) (rest := []) C (ct_X15_nextToken l X F k_x0 k_x1 eo_13) cw_X15_74 hW hZ k_x0 (by decide) rfl rfl rfl hl.1 (Nat.le_of_ble_eq_true rfl) rfl dX15_isBecoming_56 ⟨Nat.le_of_ble_eq_true rfl, Nat.le_of_ble_eq_true rfl⟩ ⟨Nat.le_refl _, Nat.le_refl _⟩) hZ (fun _ _ hW km hZ => ?_)
          replace hkm := hkm.tr km
          replace k_x0 := km.at k_x0 (by decide)
          replace k_x1 := km.at k_x1 (by decide)
          refine lv_iconst (v := (0 : Int32)) C.1 C.2.1 dX15_isBecoming_59 (by decide) ?_
          refine lv_istore (lv' := [(4, .int (0 : Int32)), (3, .int o_2.1), (0, .ref x0), (1, .ref x1), (2, .int x2)]) C.1 C.2.1 dX15_isBecoming_60 hl (by decide) rfl (fun ls hl => ?_)
          exact bX15_isBecoming_62 C F k_x0 k_x1 hkm hW hZ _ (lv_sub hl [2, 3, 4, 1, 0] rfl) hE
        · have hE := br_n hE c_12
          exact bX15_isBecoming_51 C hkm hW hZ _ (lv_sub hl [] rfl) hE
set_option maxRecDepth 100000 in
theorem m_2121 : Cond.fieldLink RX15 71 (TX15 10).1 (TX15 10).2.1 (TX15 10).2.2.1 ∈ W0 := w0_in (List.mem_append_right _ (List.mem_of_getElem? (i := 2121) rfl)) rfl
section
variable {p : Program} {l : Launch} {e : Env} {R : Room} {s : State} {m : MethodId} {args : Array Value} {below : List Frame} {meth : Method} {c : Code} {H : Heap} {locs : List Loc} {cells slots : Nat} {Q : State → Prop}
variable {cc : ByteArray} {pc : Nat} {ls : Array Slot} {rest : List Value} {X : Ec} {h h1 : Hp} {nL : Nat} {rt : Option FieldType} {mn : String}
theorem gf_X15_71 {a : Nat} (C : Cx X p s m args meth c RX15 cc nL rt mn) (hW : Wx X h H) (ha : hK h a = 15) (hdg : decode cc pc = .ok (.getfield 71, 3)) (kk : W p l e R s m args below meth c H locs cells slots Q (F0 m (pc + 3) ls (.int (hI h a 10) :: rest))) : W p l e R s m args below meth c H locs cells slots Q (F0 m pc ls (.ref a :: rest)) :=
  y_geti C hW ha i_X15 (by decide) rfl (by decide) m_2121 rfl hdg kk
theorem pf_X15_71 {a : Nat} {v : Int32} (C : Cx X p s m args meth c RX15 cc nL rt mn) (hW : Wx X h H) (hZ : va_S (aA (eB X)) s.heap H locs) (ha : hK h a = 15) (eh : h1 = wI h a 10 v) (hdg : decode cc pc = .ok (.putfield 71, 3)) (kk : ∀ (H1 : Heap) (locs1 : List Loc), Wx X h1 H1 → Km h h1 → va_S (aA (eB X)) s.heap H1 locs1 → W p l e R s m args below meth c H1 locs1 cells slots Q (F0 m (pc + 3) ls rest)) : W p l e R s m args below meth c H locs cells slots Q (F0 m pc ls (.int v :: .ref a :: rest)) :=
  y_puti (ty := .int) C hW hZ ha i_X15 tyX15 tyX15_ok nmX15 (by decide) rfl rfl (by decide) m_2121 rfl (by decide +kernel) rfl rfl rfl eh hdg kk
end
theorem dX15_isOnce_0 : decode cX15_isOnce 0 = .ok (.aload_n 0, 1) := by decide +kernel
theorem dX15_isOnce_1 : decode cX15_isOnce 1 = .ok (.getfield 71, 3) := by decide +kernel
theorem dX15_isOnce_4 : decode cX15_isOnce 4 = .ok (.iload_n 1, 1) := by decide +kernel
theorem dX15_isOnce_5 : decode cX15_isOnce 5 = .ok (.ishr, 1) := by decide +kernel
theorem dX15_isOnce_6 : decode cX15_isOnce 6 = .ok (.iconst 1, 1) := by decide +kernel
theorem dX15_isOnce_7 : decode cX15_isOnce 7 = .ok (.iand, 1) := by decide +kernel
theorem dX15_isOnce_8 : decode cX15_isOnce 8 = .ok (.ifCond .ne 7, 3) := by decide +kernel
theorem dX15_isOnce_11 : decode cX15_isOnce 11 = .ok (.iconst 1, 1) := by decide +kernel
theorem dX15_isOnce_12 : decode cX15_isOnce 12 = .ok (.goto 4, 3) := by decide +kernel
theorem dX15_isOnce_15 : decode cX15_isOnce 15 = .ok (.iconst 0, 1) := by decide +kernel
theorem dX15_isOnce_16 : decode cX15_isOnce 16 = .ok (.istore_n 2, 1) := by decide +kernel
theorem dX15_isOnce_17 : decode cX15_isOnce 17 = .ok (.aload_n 0, 1) := by decide +kernel
theorem dX15_isOnce_18 : decode cX15_isOnce 18 = .ok (.dup, 1) := by decide +kernel
theorem dX15_isOnce_19 : decode cX15_isOnce 19 = .ok (.getfield 71, 3) := by decide +kernel
theorem dX15_isOnce_22 : decode cX15_isOnce 22 = .ok (.iconst 1, 1) := by decide +kernel
theorem dX15_isOnce_23 : decode cX15_isOnce 23 = .ok (.iload_n 1, 1) := by decide +kernel
theorem dX15_isOnce_24 : decode cX15_isOnce 24 = .ok (.ishl, 1) := by decide +kernel
theorem dX15_isOnce_25 : decode cX15_isOnce 25 = .ok (.ior, 1) := by decide +kernel
theorem dX15_isOnce_26 : decode cX15_isOnce 26 = .ok (.putfield 71, 3) := by decide +kernel
theorem dX15_isOnce_29 : decode cX15_isOnce 29 = .ok (.iload_n 2, 1) := by decide +kernel
theorem dX15_isOnce_30 : decode cX15_isOnce 30 = .ok (.ireturn, 1) := by decide +kernel
def sX15_isOnce_16 (h : Hp) (x0 : Nat) (x1 : Int32) (t0 : Int32) : Option (Int32 × Hp) := nm (wI h x0 10 ((hI h x0 10) ||| ((1 : Int32) <<< (x1 &&& 31)))) fun h_1 => gd (t0 &&& 1 = t0) <| some (t0, h_1)
def sX15_isOnce (h : Hp) (x0 : Nat) (x1 : Int32) : Option (Int32 × Hp) := br ((((hI h x0 10) >>> (x1 &&& 31)) &&& (1 : Int32)) = 0) (sX15_isOnce_16  h x0 x1 (1 : Int32)) (sX15_isOnce_16  h x0 x1 (0 : Int32))
set_option maxRecDepth 20000 in
theorem moX15_isOnce_16 {o : Int32 × Hp} {h : Hp} {x0 : Nat} {x1 : Int32} {t0 : Int32} (hE : sX15_isOnce_16 h x0 x1 t0 = some o) : Le h o.2 := by
  obtain ⟨h_1, eh_1, hE⟩ := nm_e2 hE
  refine (le_I eh_1).tr ?_
  obtain ⟨g_2, hE⟩ := gd_e hE
  exact le_some2 hE
set_option maxRecDepth 20000 in
theorem moX15_isOnce {o : Int32 × Hp} {h : Hp} {x0 : Nat} {x1 : Int32} (hE : sX15_isOnce h x0 x1 = some o) : Le h o.2 := by
  rcases br_e hE with ⟨_, hE⟩ | ⟨_, hE⟩
  · exact moX15_isOnce_16 hE
  · exact moX15_isOnce_16 hE
set_option maxRecDepth 20000 in
theorem bX15_isOnce_16 {p : Program} {l : Launch} {e : Env} {s : State} {m : MethodId} {args : Array Value} {below : List Frame} {meth : Method} {c : Code} {X : Ec} {h0 : Hp} {o : Int32 × Hp} (C : Cx X p s m args meth c RX15 cX15_isOnce 3 (some .boolean) "isOnce") {h : Hp} {x0 : Nat} {x1 : Int32} {t0 : Int32} {H : Heap} {locs : List Loc} (k_x0 : hK h x0 = 15) (hkm : Km h0 h) (hW : Wx X h H) (hZ : va_S (aA (eB X)) s.heap H locs) (ls : Array Slot) (hl : lv_has ls 3 [(0, .ref x0), (1, .int x1)]) (hE : sX15_isOnce_16 h x0 x1 t0 = some o) : W p l e (rm 0 0) s m args below meth c H locs 0 0 (MQ below (QI X h0 o.1 o.2) args s 0 0 (aA (eB X))) (F0 m 16 ls [.int t0]) := by
  refine lv_istore_n (lv' := [(2, .int t0), (0, .ref x0), (1, .int x1)]) C.1 C.2.1 dX15_isOnce_16 rfl hl (by decide) rfl (fun ls hl => ?_)
  refine lv_aload_n C.1 C.2.1 dX15_isOnce_17 rfl (lv_at hl 1 rfl) ?_
  refine lv_dup C.1 C.2.1 dX15_isOnce_18 rfl ?_
  refine gf_X15_71 C hW k_x0 dX15_isOnce_19 ?_
  refine lv_iconst (v := (1 : Int32)) C.1 C.2.1 dX15_isOnce_22 (by decide) ?_
  refine lv_iload_n C.1 C.2.1 dX15_isOnce_23 rfl (lv_at hl 2 rfl) ?_
  refine lv_ishl C.1 C.2.1 dX15_isOnce_24 ?_
  refine lv_ior C.1 C.2.1 dX15_isOnce_25 ?_
  obtain ⟨h_1, eh_1, hE⟩ := nm_e2 hE
  refine pf_X15_71 C hW hZ k_x0 eh_1 dX15_isOnce_26 (fun _ _ hW km hZ => ?_)
  replace hkm := hkm.tr km
  replace k_x0 := km.at k_x0 (by decide)
  refine lv_iload_n C.1 C.2.1 dX15_isOnce_29 rfl (lv_at hl 0 rfl) ?_
  obtain ⟨g_2, hE⟩ := gd_e hE
  exact x_iret C rfl (narB g_2) hW hZ hkm hE dX15_isOnce_30
set_option maxRecDepth 20000 in
theorem ct_X15_isOnce (l : Launch) (X : Ec) {h : Hp} {x0 : Nat} {x1 : Int32} {o : Int32 × Hp} (k_x0 : hK h x0 = 15) (hE : sX15_isOnce h x0 x1 = some o) : MetI l yX15_isOnce cX15_isOnce 3 (some .boolean) 0 0 X [.ref x0, .int x1] h o := by
  refine x_met (by decide) (Nat.le_of_ble_eq_true rfl) ?_
  intro p e s m below meth c ls C hl hW hZ
  have hl : lv_has ls 3 [(0, .ref x0), (1, .int x1)] := hl
  have hkm : Km h h := Km.rf h
  refine lv_aload_n C.1 C.2.1 dX15_isOnce_0 rfl (lv_at hl 0 rfl) ?_
  refine gf_X15_71 C hW k_x0 dX15_isOnce_1 ?_
  refine lv_iload_n C.1 C.2.1 dX15_isOnce_4 rfl (lv_at hl 1 rfl) ?_
  refine lv_ishr C.1 C.2.1 dX15_isOnce_5 ?_
  refine lv_iconst (v := (1 : Int32)) C.1 C.2.1 dX15_isOnce_6 (by decide) ?_
  refine lv_iand C.1 C.2.1 dX15_isOnce_7 ?_
  refine lv_if_ne (tgt := 15) C.1 C.2.1 dX15_isOnce_8 (by decide) (fun c_1 => ?_) (fun c_1 => ?_)
  · have hE := br_n hE c_1
    refine lv_iconst (v := (0 : Int32)) C.1 C.2.1 dX15_isOnce_15 (by decide) ?_
    exact bX15_isOnce_16 C k_x0 hkm hW hZ _ (lv_sub hl [0, 1] rfl) hE
  · have hE := br_p hE c_1
    refine lv_iconst (v := (1 : Int32)) C.1 C.2.1 dX15_isOnce_11 (by decide) ?_
    refine lv_goto (tgt := 16) C.1 C.2.1 dX15_isOnce_12 (by decide) ?_
    exact bX15_isOnce_16 C k_x0 hkm hW hZ _ (lv_sub hl [0, 1] rfl) hE
theorem dX15_goesOn_0 : decode cX15_goesOn 0 = .ok (.aload_n 0, 1) := by decide +kernel
theorem dX15_goesOn_1 : decode cX15_goesOn 1 = .ok (.aload_n 1, 1) := by decide +kernel
theorem dX15_goesOn_2 : decode cX15_goesOn 2 = .ok (.iload_n 2, 1) := by decide +kernel
theorem dX15_goesOn_3 : decode cX15_goesOn 3 = .ok (.invokevirtual 74, 3) := by decide +kernel
theorem dX15_goesOn_6 : decode cX15_goesOn 6 = .ok (.iconst 1, 1) := by decide +kernel
theorem dX15_goesOn_7 : decode cX15_goesOn 7 = .ok (.ireturn, 1) := by decide +kernel
def sX15_goesOn (F : Nat) (h : Hp) (x0 : Nat) (x1 : Nat) (x2 : Int32) : Option (Int32 × Hp) := cl (sX15_nextToken F h x0 x1 x2) fun o_1 => some ((1 : Int32), o_1)
set_option maxRecDepth 20000 in
theorem moX15_goesOn {o : Int32 × Hp} {F : Nat} {h : Hp} {x0 : Nat} {x1 : Nat} {x2 : Int32} (hE : sX15_goesOn F h x0 x1 x2 = some o) : Le h o.2 := by
  obtain ⟨o_1, eo_1, hE⟩ := cl_e hE
  refine (moX15_nextToken eo_1).tr ?_
  exact le_some2 hE
set_option maxRecDepth 20000 in
theorem ct_X15_goesOn (l : Launch) (X : Ec) (F : Nat) {h : Hp} {x0 : Nat} {x1 : Nat} {x2 : Int32} {o : Int32 × Hp} (k_x0 : hK h x0 = 15) (k_x1 : hK h x1 = 16) (hE : sX15_goesOn F h x0 x1 x2 = some o) : MetI l yX15_goesOn cX15_goesOn 3 (some .boolean) 2 49 X [.ref x0, .ref x1, .int x2] h o := by
  refine x_met (by decide) (Nat.le_of_ble_eq_true rfl) ?_
  intro p e s m below meth c ls C hl hW hZ
  have hl : lv_has ls 3 [(0, .ref x0), (1, .ref x1), (2, .int x2)] := hl
  have hkm : Km h h := Km.rf h
  refine lv_aload_n C.1 C.2.1 dX15_goesOn_0 rfl (lv_at hl 0 rfl) ?_
  refine lv_aload_n C.1 C.2.1 dX15_goesOn_1 rfl (lv_at hl 1 rfl) ?_
  refine lv_iload_n C.1 C.2.1 dX15_goesOn_2 rfl (lv_at hl 2 rfl) ?_
  obtain ⟨o_1, eo_1, hE⟩ := cl_e hE
  refine x_kV (o := o_1) (z_runV (As := [.ref x1, .int x2]) (rest := []) C (ct_X15_nextToken l X F k_x0 k_x1 eo_1) cw_X15_74 hW hZ k_x0 (by decide) rfl rfl rfl hl.1 (Nat.le_of_ble_eq_true rfl) rfl dX15_goesOn_3 ⟨Nat.le_of_ble_eq_true rfl, Nat.le_of_ble_eq_true rfl⟩ ⟨Nat.le_refl _, Nat.le_refl _⟩) hZ (fun _ _ hW km hZ => ?_)
  replace hkm := hkm.tr km
  replace k_x0 := km.at k_x0 (by decide)
  replace k_x1 := km.at k_x1 (by decide)
  refine lv_iconst (v := (1 : Int32)) C.1 C.2.1 dX15_goesOn_6 (by decide) ?_
  exact x_iret C rfl (by decide) hW hZ hkm hE dX15_goesOn_7
set_option maxRecDepth 100000 in
theorem ms_127 : Cond.selects RX15 yX15_goesOn yX15_goesOn ∈ W0 := w0_in (List.mem_append_left _ (List.mem_of_getElem? (i := 127) rfl)) rfl
set_option maxRecDepth 100000 in
theorem m_2072 : Cond.methodLink RX15 129 yX15_goesOn ∈ W0 := w0_in (List.mem_append_right _ (List.mem_of_getElem? (i := 2072) rfl)) rfl
set_option maxRecDepth 100000 in
theorem m_2074 : Cond.instanceMethod yX15_goesOn ∈ W0 := w0_in (List.mem_append_right _ (List.mem_of_getElem? (i := 2074) rfl)) rfl
set_option maxRecDepth 100000 in
theorem m_2075 : Cond.code yX15_goesOn cX15_goesOn 3 (some .boolean) ∈ W0 := w0_in (List.mem_append_right _ (List.mem_of_getElem? (i := 2075) rfl)) rfl
section
variable {p : Program} {l : Launch} {e : Env} {R : Room} {s : State} {m : MethodId} {args : Array Value} {below : List Frame} {meth : Method} {c : Code} {H : Heap} {locs : List Loc} {cells slots : Nat} {Q : State → Prop}
variable {cc : ByteArray} {pc : Nat} {ls : Array Slot} {rest : List Value} {X : Ec} {h h1 : Hp} {nL : Nat} {rt : Option FieldType} {mn : String}
theorem pf_X15_221 {a : Nat} {v : Int32} (C : Cx X p s m args meth c RX15 cc nL rt mn) (hW : Wx X h H) (hZ : va_S (aA (eB X)) s.heap H locs) (ha : hK h a = 14) (eh : h1 = wI h a 10 v) (hdg : decode cc pc = .ok (.putfield 221, 3)) (kk : ∀ (H1 : Heap) (locs1 : List Loc), Wx X h1 H1 → Km h h1 → va_S (aA (eB X)) s.heap H1 locs1 → W p l e R s m args below meth c H1 locs1 cells slots Q (F0 m (pc + 3) ls rest)) : W p l e R s m args below meth c H locs cells slots Q (F0 m pc ls (.int v :: .ref a :: rest)) :=
  y_putiN (ty := .int) C hW hZ ha i_X14 tyX14 tyX14_ok nmX14 (by decide) rfl rfl (by decide) n_1825 rfl (by decide +kernel) rfl rfl rfl eh hdg kk
end
theorem cw_X15_129 : cwd RX15 129 yX15_goesOn cX15_goesOn 3 (some .boolean) false 2 := ⟨m_2075, m_2072, m_19, ⟨m_2074, ms_127⟩, by decide, by decide, by decide +kernel⟩
theorem dX15_isRoyal_0 : decode cX15_isRoyal 0 = .ok (.aload_n 0, 1) := by decide +kernel
theorem dX15_isRoyal_1 : decode cX15_isRoyal 1 = .ok (.aload_n 1, 1) := by decide +kernel
theorem dX15_isRoyal_2 : decode cX15_isRoyal 2 = .ok (.iload_n 2, 1) := by decide +kernel
theorem dX15_isRoyal_3 : decode cX15_isRoyal 3 = .ok (.invokevirtual 74, 3) := by decide +kernel
theorem dX15_isRoyal_6 : decode cX15_isRoyal 6 = .ok (.aload_n 0, 1) := by decide +kernel
theorem dX15_isRoyal_7 : decode cX15_isRoyal 7 = .ok (.aload_n 1, 1) := by decide +kernel
theorem dX15_isRoyal_8 : decode cX15_isRoyal 8 = .ok (.invokevirtual 165, 3) := by decide +kernel
theorem dX15_isRoyal_11 : decode cX15_isRoyal 11 = .ok (.istore_n 3, 1) := by decide +kernel
theorem dX15_isRoyal_12 : decode cX15_isRoyal 12 = .ok (.iload_n 3, 1) := by decide +kernel
theorem dX15_isRoyal_13 : decode cX15_isRoyal 13 = .ok (.iconst (-1), 1) := by decide +kernel
theorem dX15_isRoyal_14 : decode cX15_isRoyal 14 = .ok (.if_icmp .eq 26, 3) := by decide +kernel
theorem dX15_isRoyal_17 : decode cX15_isRoyal 17 = .ok (.aload_n 0, 1) := by decide +kernel
theorem dX15_isRoyal_18 : decode cX15_isRoyal 18 = .ok (.getfield 57, 3) := by decide +kernel
theorem dX15_isRoyal_21 : decode cX15_isRoyal 21 = .ok (.getfield 215, 3) := by decide +kernel
theorem dX15_isRoyal_24 : decode cX15_isRoyal 24 = .ok (.iload_n 3, 1) := by decide +kernel
theorem dX15_isRoyal_25 : decode cX15_isRoyal 25 = .ok (.iaload, 1) := by decide +kernel
theorem dX15_isRoyal_26 : decode cX15_isRoyal 26 = .ok (.ifCond .gt 14, 3) := by decide +kernel
theorem dX15_isRoyal_29 : decode cX15_isRoyal 29 = .ok (.aload_n 0, 1) := by decide +kernel
theorem dX15_isRoyal_30 : decode cX15_isRoyal 30 = .ok (.getfield 57, 3) := by decide +kernel
theorem dX15_isRoyal_33 : decode cX15_isRoyal 33 = .ok (.iload_n 3, 1) := by decide +kernel
theorem dX15_isRoyal_34 : decode cX15_isRoyal 34 = .ok (.invokevirtual 218, 3) := by decide +kernel
theorem dX15_isRoyal_37 : decode cX15_isRoyal 37 = .ok (.ifCond .eq 5, 3) := by decide +kernel
theorem dX15_isRoyal_40 : decode cX15_isRoyal 40 = .ok (.iconst 0, 1) := by decide +kernel
theorem dX15_isRoyal_41 : decode cX15_isRoyal 41 = .ok (.ireturn, 1) := by decide +kernel
theorem dX15_isRoyal_42 : decode cX15_isRoyal 42 = .ok (.aload_n 0, 1) := by decide +kernel
theorem dX15_isRoyal_43 : decode cX15_isRoyal 43 = .ok (.getfield 57, 3) := by decide +kernel
theorem dX15_isRoyal_46 : decode cX15_isRoyal 46 = .ok (.iload_n 3, 1) := by decide +kernel
theorem dX15_isRoyal_47 : decode cX15_isRoyal 47 = .ok (.putfield 221, 3) := by decide +kernel
theorem dX15_isRoyal_50 : decode cX15_isRoyal 50 = .ok (.aload_n 0, 1) := by decide +kernel
theorem dX15_isRoyal_51 : decode cX15_isRoyal 51 = .ok (.aload_n 1, 1) := by decide +kernel
theorem dX15_isRoyal_52 : decode cX15_isRoyal 52 = .ok (.iload_n 2, 1) := by decide +kernel
theorem dX15_isRoyal_53 : decode cX15_isRoyal 53 = .ok (.invokevirtual 129, 3) := by decide +kernel
theorem dX15_isRoyal_56 : decode cX15_isRoyal 56 = .ok (.ireturn, 1) := by decide +kernel
def sX15_isRoyal_40 (F : Nat) (h : Hp) : Option (Int32 × Hp) := some ((0 : Int32), h)
def sX15_isRoyal (F : Nat) (h : Hp) (x0 : Nat) (x1 : Nat) (x2 : Int32) : Option (Int32 × Hp) := cl (sX15_nextToken F h x0 x1 x2) fun o_1 => cl (sX15_manAt F o_1 x0 x1) fun o_2 => br (o_2.1 = (-1 : Int32)) (sX15_isRoyal_40 F o_2.2 ) (cl (hR o_2.2 x0 5) fun r_4 => cl (hR o_2.2 r_4 14) fun r_5 => gd (inB o_2.1 (hN o_2.2 r_5)) <| br (0 < (hI o_2.2 r_5 o_2.1.toNatClampNeg)) (sX15_isRoyal_40 F o_2.2 ) (cl (hR o_2.2 x0 5) fun r_8 => cl (sX14_isBecome F o_2.2 r_8 o_2.1) fun o_9 => br (o_9.1 = 0) (cl (hR o_9.2 x0 5) fun r_11 => nm (wI o_9.2 r_11 10 o_2.1) fun h_12 => cl (sX15_goesOn F h_12 x0 x1 x2) fun o_13 => gd (o_13.1 &&& 1 = o_13.1) <| some (o_13.1, o_13.2)) (sX15_isRoyal_40 F o_9.2 )))
set_option maxRecDepth 20000 in
theorem moX15_isRoyal_40 {o : Int32 × Hp} {F : Nat} {h : Hp} (hE : sX15_isRoyal_40 F h  = some o) : Le h o.2 := by
  exact le_some2 hE
set_option maxRecDepth 20000 in
theorem moX15_isRoyal {o : Int32 × Hp} {F : Nat} {h : Hp} {x0 : Nat} {x1 : Nat} {x2 : Int32} (hE : sX15_isRoyal F h x0 x1 x2 = some o) : Le h o.2 := by
  obtain ⟨o_1, eo_1, hE⟩ := cl_e hE
  refine (moX15_nextToken eo_1).tr ?_
  obtain ⟨o_2, eo_2, hE⟩ := cl_e hE
  refine (moX15_manAt eo_2).tr ?_
  rcases br_e hE with ⟨_, hE⟩ | ⟨_, hE⟩
  · exact moX15_isRoyal_40 hE
  · obtain ⟨r_4, er_4, hE⟩ := cl_e hE
    obtain ⟨r_5, er_5, hE⟩ := cl_e hE
    obtain ⟨g_6, hE⟩ := gd_e hE
    rcases br_e hE with ⟨_, hE⟩ | ⟨_, hE⟩
    · exact moX15_isRoyal_40 hE
    · obtain ⟨r_8, er_8, hE⟩ := cl_e hE
      obtain ⟨o_9, eo_9, hE⟩ := cl_e hE
      refine (moX14_isBecome eo_9).tr ?_
      rcases br_e hE with ⟨_, hE⟩ | ⟨_, hE⟩
      · obtain ⟨r_11, er_11, hE⟩ := cl_e hE
        obtain ⟨h_12, eh_12, hE⟩ := nm_e2 hE
        refine (le_I eh_12).tr ?_
        obtain ⟨o_13, eo_13, hE⟩ := cl_e hE
        refine (moX15_goesOn eo_13).tr ?_
        obtain ⟨g_14, hE⟩ := gd_e hE
        exact le_some2 hE
      · exact moX15_isRoyal_40 hE
set_option maxRecDepth 20000 in
theorem bX15_isRoyal_40 {p : Program} {l : Launch} {e : Env} {s : State} {m : MethodId} {args : Array Value} {below : List Frame} {meth : Method} {c : Code} {X : Ec} {h0 : Hp} {o : Int32 × Hp} {F : Nat} (C : Cx X p s m args meth c RX15 cX15_isRoyal 4 (some .boolean) "isRoyal") {h : Hp} {H : Heap} {locs : List Loc} (hkm : Km h0 h) (hW : Wx X h H) (hZ : va_S (aA (eB X)) s.heap H locs) (ls : Array Slot) (hl : lv_has ls 4 []) (hE : sX15_isRoyal_40 F h  = some o) : W p l e (rm 3 71) s m args below meth c H locs 0 0 (MQ below (QI X h0 o.1 o.2) args s 0 0 (aA (eB X))) (F0 m 40 ls []) := by
  refine lv_iconst (v := (0 : Int32)) C.1 C.2.1 dX15_isRoyal_40 (by decide) ?_
  exact x_iret C rfl (by decide) hW hZ hkm hE dX15_isRoyal_41
set_option maxRecDepth 20000 in
theorem ct_X15_isRoyal (l : Launch) (X : Ec) (F : Nat) {h : Hp} {x0 : Nat} {x1 : Nat} {x2 : Int32} {o : Int32 × Hp} (k_x0 : hK h x0 = 15) (k_x1 : hK h x1 = 16) (hE : sX15_isRoyal F h x0 x1 x2 = some o) : MetI l yX15_isRoyal cX15_isRoyal 4 (some .boolean) 3 71 X [.ref x0, .ref x1, .int x2] h o := by
  refine x_met (by decide) (Nat.le_of_ble_eq_true rfl) ?_
  intro p e s m below meth c ls C hl hW hZ
  have hl : lv_has ls 4 [(0, .ref x0), (1, .ref x1), (2, .int x2)] := hl
  have hkm : Km h h := Km.rf h
  refine lv_aload_n C.1 C.2.1 dX15_isRoyal_0 rfl (lv_at hl 0 rfl) ?_
  refine lv_aload_n C.1 C.2.1 dX15_isRoyal_1 rfl (lv_at hl 1 rfl) ?_
  refine lv_iload_n C.1 C.2.1 dX15_isRoyal_2 rfl (lv_at hl 2 rfl) ?_
  obtain ⟨o_1, eo_1, hE⟩ := cl_e hE
  refine x_kV (o := o_1) (z_runV (As := [.ref x1, .int x2]) (rest := []) C (ct_X15_nextToken l X F k_x0 k_x1 eo_1) cw_X15_74 hW hZ k_x0 (by decide) rfl rfl rfl hl.1 (Nat.le_of_ble_eq_true rfl) rfl dX15_isRoyal_3 ⟨Nat.le_of_ble_eq_true rfl, Nat.le_of_ble_eq_true rfl⟩ ⟨Nat.le_refl _, Nat.le_refl _⟩) hZ (fun _ _ hW km hZ => ?_)
  replace hkm := hkm.tr km
  replace k_x0 := km.at k_x0 (by decide)
  replace k_x1 := km.at k_x1 (by decide)
  refine lv_aload_n C.1 C.2.1 dX15_isRoyal_6 rfl (lv_at hl 0 rfl) ?_
  refine lv_aload_n C.1 C.2.1 dX15_isRoyal_7 rfl (lv_at hl 1 rfl) ?_
  obtain ⟨o_2, eo_2, hE⟩ := cl_e hE
  refine x_kI (o := o_2) (z_runV (As := [.ref x1]) (rest := []) C (ct_X15_manAt l X F k_x0 k_x1 eo_2) cw_X15_165 hW hZ k_x0 (by decide) rfl rfl rfl hl.1 (Nat.le_of_ble_eq_true rfl) rfl dX15_isRoyal_8 ⟨Nat.le_of_ble_eq_true rfl, Nat.le_of_ble_eq_true rfl⟩ ⟨Nat.le_refl _, Nat.le_refl _⟩) hZ (fun _ _ hW km hZ => ?_)
  replace hkm := hkm.tr km
  replace k_x0 := km.at k_x0 (by decide)
  replace k_x1 := km.at k_x1 (by decide)
  refine lv_istore_n (lv' := [(3, .int o_2.1), (0, .ref x0), (1, .ref x1), (2, .int x2)]) C.1 C.2.1 dX15_isRoyal_11 rfl hl (by decide) rfl (fun ls hl => ?_)
  refine lv_iload_n C.1 C.2.1 dX15_isRoyal_12 rfl (lv_at hl 0 rfl) ?_
  refine lv_iconst (v := (-1 : Int32)) C.1 C.2.1 dX15_isRoyal_13 (by decide) ?_
  refine lv_icmp_eq (tgt := 40) C.1 C.2.1 dX15_isRoyal_14 (by decide) (fun c_3 => ?_) (fun c_3 => ?_)
  · have hE := br_p hE c_3
    exact bX15_isRoyal_40 C hkm hW hZ _ (lv_sub hl [] rfl) hE
  · have hE := br_n hE c_3
    refine lv_aload_n C.1 C.2.1 dX15_isRoyal_17 rfl (lv_at hl 1 rfl) ?_
    obtain ⟨r_4, er_4, hE⟩ := cl_e hE
    refine gf_X15_57 C hW k_x0 er_4 dX15_isRoyal_18 (fun k_r_4 => ?_)
    obtain ⟨r_5, er_5, hE⟩ := cl_e hE
    refine gf_X15_215 C hW k_r_4 er_5 dX15_isRoyal_21 (fun k_r_5 => ?_)
    refine lv_iload_n C.1 C.2.1 dX15_isRoyal_24 rfl (lv_at hl 0 rfl) ?_
    obtain ⟨g_6, hE⟩ := gd_e hE
    refine y_iald C hW k_r_5 g_6 dX15_isRoyal_25 ?_
    refine lv_if_gt (tgt := 40) C.1 C.2.1 dX15_isRoyal_26 (by decide) (fun c_7 => ?_) (fun c_7 => ?_)
    · have hE := br_p hE c_7
      exact bX15_isRoyal_40 C hkm hW hZ _ (lv_sub hl [] rfl) hE
    · have hE := br_n hE c_7
      refine lv_aload_n C.1 C.2.1 dX15_isRoyal_29 rfl (lv_at hl 1 rfl) ?_
      obtain ⟨r_8, er_8, hE⟩ := cl_e hE
      refine gf_X15_57 C hW k_x0 er_8 dX15_isRoyal_30 (fun k_r_8 => ?_)
      refine lv_iload_n C.1 C.2.1 dX15_isRoyal_33 rfl (lv_at hl 0 rfl) ?_
      obtain ⟨o_9, eo_9, hE⟩ := cl_e hE
      refine x_kI (o := o_9) (z_runV (As := [.int o_2.1]) (rest := []) C (ct_X14_isBecome l X F k_r_8 eo_9) cw_X15_218 hW hZ k_r_8 (by decide) rfl rfl rfl hl.1 (Nat.le_of_ble_eq_true rfl) rfl dX15_isRoyal_34 ⟨Nat.le_of_ble_eq_true rfl, Nat.le_of_ble_eq_true rfl⟩ ⟨Nat.le_refl _, Nat.le_refl _⟩) hZ (fun _ _ hW km hZ => ?_)
      replace hkm := hkm.tr km
      replace k_x0 := km.at k_x0 (by decide)
      replace k_x1 := km.at k_x1 (by decide)
      refine lv_if_eq (tgt := 42) C.1 C.2.1 dX15_isRoyal_37 (by decide) (fun c_10 => ?_) (fun c_10 => ?_)
      · have hE := br_p hE c_10
        refine lv_aload_n C.1 C.2.1 dX15_isRoyal_42 rfl (lv_at hl 1 rfl) ?_
        obtain ⟨r_11, er_11, hE⟩ := cl_e hE
        refine gf_X15_57 C hW k_x0 er_11 dX15_isRoyal_43 (fun k_r_11 => ?_)
        refine lv_iload_n C.1 C.2.1 dX15_isRoyal_46 rfl (lv_at hl 0 rfl) ?_
        obtain ⟨h_12, eh_12, hE⟩ := nm_e2 hE
        refine pf_X15_221 C hW hZ k_r_11 eh_12 dX15_isRoyal_47 (fun _ _ hW km hZ => ?_)
        replace hkm := hkm.tr km
        replace k_x0 := km.at k_x0 (by decide)
        replace k_x1 := km.at k_x1 (by decide)
        refine lv_aload_n C.1 C.2.1 dX15_isRoyal_50 rfl (lv_at hl 1 rfl) ?_
        refine lv_aload_n C.1 C.2.1 dX15_isRoyal_51 rfl (lv_at hl 2 rfl) ?_
        refine lv_iload_n C.1 C.2.1 dX15_isRoyal_52 rfl (lv_at hl 3 rfl) ?_
        obtain ⟨o_13, eo_13, hE⟩ := cl_e hE
        refine x_kI (o := o_13) (z_runV (As := [.ref x1, .int x2]) (rest := []) C (ct_X15_goesOn l X F k_x0 k_x1 eo_13) cw_X15_129 hW hZ k_x0 (by decide) rfl rfl rfl hl.1 (Nat.le_of_ble_eq_true rfl) rfl dX15_isRoyal_53 ⟨Nat.le_of_ble_eq_true rfl, Nat.le_of_ble_eq_true rfl⟩ ⟨Nat.le_refl _, Nat.le_refl _⟩) hZ (fun _ _ hW km hZ => ?_)
        replace hkm := hkm.tr km
        replace k_x0 := km.at k_x0 (by decide)
        replace k_x1 := km.at k_x1 (by decide)
        obtain ⟨g_14, hE⟩ := gd_e hE
        exact x_iret C rfl (narB g_14) hW hZ hkm hE dX15_isRoyal_56
      · have hE := br_n hE c_10
        exact bX15_isRoyal_40 C hkm hW hZ _ (lv_sub hl [] rfl) hE
