set_option maxRecDepth 100000 in
theorem ms_81 : Cond.selects RX6 yX6_takeBack yX6_takeBack ∈ W0 := w0_in (List.mem_append_left _ (List.mem_of_getElem? (i := 81) rfl)) rfl
set_option maxRecDepth 100000 in
theorem m_284 : Cond.fieldLink RX6 67 (TX3 1).1 (TX3 1).2.1 (TX3 1).2.2.1 ∈ W0 := w0_in (List.mem_append_right _ (List.mem_of_getElem? (i := 284) rfl)) rfl
set_option maxRecDepth 100000 in
theorem m_1526 : Cond.methodLink RX6 49 yX3_strip ∈ W0 := w0_in (List.mem_append_right _ (List.mem_of_getElem? (i := 1526) rfl)) rfl
set_option maxRecDepth 100000 in
theorem m_1527 : Cond.methodLink RX6 55 yX5_isRoyalHit ∈ W0 := w0_in (List.mem_append_right _ (List.mem_of_getElem? (i := 1527) rfl)) rfl
set_option maxRecDepth 100000 in
theorem m_1530 : Cond.methodLink RX6 79 yX6_takeBack ∈ W0 := w0_in (List.mem_append_right _ (List.mem_of_getElem? (i := 1530) rfl)) rfl
set_option maxRecDepth 100000 in
theorem m_1532 : Cond.instanceMethod yX6_takeBack ∈ W0 := w0_in (List.mem_append_right _ (List.mem_of_getElem? (i := 1532) rfl)) rfl
set_option maxRecDepth 100000 in
theorem m_1533 : Cond.code yX6_takeBack cX6_takeBack 10 none ∈ W0 := w0_in (List.mem_append_right _ (List.mem_of_getElem? (i := 1533) rfl)) rfl
set_option maxRecDepth 100000 in
theorem m_1578 : Cond.methodLink RX6 86 yX1_isLast ∈ W0 := w0_in (List.mem_append_right _ (List.mem_of_getElem? (i := 1578) rfl)) rfl
set_option maxRecDepth 100000 in
theorem m_1579 : Cond.methodLink RX6 90 yX1_becomesThis ∈ W0 := w0_in (List.mem_append_right _ (List.mem_of_getElem? (i := 1579) rfl)) rfl
set_option maxRecDepth 100000 in
theorem m_1580 : Cond.instanceMethod yX1_becomesThis ∈ W0 := w0_in (List.mem_append_right _ (List.mem_of_getElem? (i := 1580) rfl)) rfl
set_option maxRecDepth 100000 in
theorem m_1581 : Cond.selects RX1 yX1_becomesThis yX1_becomesThis ∈ W0 := w0_in (List.mem_append_right _ (List.mem_of_getElem? (i := 1581) rfl)) rfl
set_option maxRecDepth 100000 in
theorem m_1582 : Cond.code yX1_becomesThis cX1_becomesThis 4 (some .boolean) ∈ W0 := w0_in (List.mem_append_right _ (List.mem_of_getElem? (i := 1582) rfl)) rfl
section
variable {p : Program} {l : Launch} {e : Env} {R : Room} {s : State} {m : MethodId} {args : Array Value} {below : List Frame} {meth : Method} {c : Code} {H : Heap} {locs : List Loc} {cells slots : Nat} {Q : State → Prop}
variable {cc : ByteArray} {pc : Nat} {ls : Array Slot} {rest : List Value} {X : Ec} {h h1 : Hp} {nL : Nat} {rt : Option FieldType} {mn : String}
theorem gf_X6_67 {a r : Nat} (C : Cx X p s m args meth c RX6 cc nL rt mn) (hW : Wx X h H) (ha : hK h a = 3) (hr : hR h a 1 = some r) (hdg : decode cc pc = .ok (.getfield 67, 3)) (kk : hK h r = 18 → W p l e R s m args below meth c H locs cells slots Q (F0 m (pc + 3) ls (.ref r :: rest))) : W p l e R s m args below meth c H locs cells slots Q (F0 m pc ls (.ref a :: rest)) :=
  y_getr C hW ha i_X3 (by decide) rfl (by decide) m_284 rfl rfl hr hdg kk
theorem pf_X6_52 {a : Nat} {v : Int32} (C : Cx X p s m args meth c RX6 cc nL rt mn) (hW : Wx X h H) (hZ : va_S (aA (eB X)) s.heap H locs) (ha : hK h a = 3) (eh : h1 = wI h a 5 v) (hdg : decode cc pc = .ok (.putfield 52, 3)) (kk : ∀ (H1 : Heap) (locs1 : List Loc), Wx X h1 H1 → Km h h1 → va_S (aA (eB X)) s.heap H1 locs1 → W p l e R s m args below meth c H1 locs1 cells slots Q (F0 m (pc + 3) ls rest)) : W p l e R s m args below meth c H locs cells slots Q (F0 m pc ls (.int v :: .ref a :: rest)) :=
  y_puti (ty := .int) C hW hZ ha i_X3 tyX3 tyX3_ok nmX3 (by decide) rfl rfl (by decide) m_297 rfl (by decide +kernel) rfl rfl rfl eh hdg kk
end
theorem cw_X6_86 : cwd RX6 86 yX1_isLast cX1_isLast 3 (some .boolean) false 2 := ⟨m_1039, m_1578, m_4, ⟨m_1037, m_1038⟩, by decide, by decide, by decide +kernel⟩
theorem cw_X6_90 : cwd RX6 90 yX1_becomesThis cX1_becomesThis 4 (some .boolean) false 2 := ⟨m_1582, m_1579, m_4, ⟨m_1580, m_1581⟩, by decide, by decide, by decide +kernel⟩
theorem cw_X6_79 : cwd RX6 79 yX6_takeBack cX6_takeBack 10 none false 2 := ⟨m_1533, m_1530, m_12, ⟨m_1532, ms_81⟩, by decide, by decide, by decide +kernel⟩
theorem cw_X6_49 : cwd RX6 49 yX3_strip cX3_strip 1 none false 0 := ⟨m_946, m_1526, m_8, ⟨m_944, m_945⟩, by decide, by decide, by decide +kernel⟩
theorem cw_X6_55 : cwd RX6 55 yX5_isRoyalHit cX5_isRoyalHit 3 (some .boolean) false 2 := ⟨m_1069, m_1527, m_7, ⟨m_1067, m_1068⟩, by decide, by decide, by decide +kernel⟩
theorem dX6_find_0 : decode cX6_find 0 = .ok (.aload_n 0, 1) := by decide +kernel
theorem dX6_find_1 : decode cX6_find 1 = .ok (.iconst 0, 1) := by decide +kernel
theorem dX6_find_2 : decode cX6_find 2 = .ok (.putfield 37, 3) := by decide +kernel
theorem dX6_find_5 : decode cX6_find 5 = .ok (.aload_n 0, 1) := by decide +kernel
theorem dX6_find_6 : decode cX6_find 6 = .ok (.iconst 0, 1) := by decide +kernel
theorem dX6_find_7 : decode cX6_find 7 = .ok (.putfield 41, 3) := by decide +kernel
theorem dX6_find_10 : decode cX6_find 10 = .ok (.aload_n 0, 1) := by decide +kernel
theorem dX6_find_11 : decode cX6_find 11 = .ok (.getfield 12, 3) := by decide +kernel
theorem dX6_find_14 : decode cX6_find 14 = .ok (.aload_n 1, 1) := by decide +kernel
theorem dX6_find_15 : decode cX6_find 15 = .ok (.invokevirtual 45, 3) := by decide +kernel
theorem dX6_find_18 : decode cX6_find 18 = .ok (.aload_n 0, 1) := by decide +kernel
theorem dX6_find_19 : decode cX6_find 19 = .ok (.getfield 12, 3) := by decide +kernel
theorem dX6_find_22 : decode cX6_find 22 = .ok (.invokevirtual 49, 3) := by decide +kernel
theorem dX6_find_25 : decode cX6_find 25 = .ok (.aload_n 0, 1) := by decide +kernel
theorem dX6_find_26 : decode cX6_find 26 = .ok (.getfield 12, 3) := by decide +kernel
theorem dX6_find_29 : decode cX6_find 29 = .ok (.iconst 1, 1) := by decide +kernel
theorem dX6_find_30 : decode cX6_find 30 = .ok (.aload_n 1, 1) := by decide +kernel
theorem dX6_find_31 : decode cX6_find 31 = .ok (.getfield 52, 3) := by decide +kernel
theorem dX6_find_34 : decode cX6_find 34 = .ok (.isub, 1) := by decide +kernel
theorem dX6_find_35 : decode cX6_find 35 = .ok (.putfield 52, 3) := by decide +kernel
theorem dX6_find_38 : decode cX6_find 38 = .ok (.aload_n 0, 1) := by decide +kernel
theorem dX6_find_39 : decode cX6_find 39 = .ok (.getfield 33, 3) := by decide +kernel
theorem dX6_find_42 : decode cX6_find 42 = .ok (.aload_n 0, 1) := by decide +kernel
theorem dX6_find_43 : decode cX6_find 43 = .ok (.getfield 12, 3) := by decide +kernel
theorem dX6_find_46 : decode cX6_find 46 = .ok (.aload_n 0, 1) := by decide +kernel
theorem dX6_find_47 : decode cX6_find 47 = .ok (.getfield 12, 3) := by decide +kernel
theorem dX6_find_50 : decode cX6_find 50 = .ok (.getfield 52, 3) := by decide +kernel
theorem dX6_find_53 : decode cX6_find 53 = .ok (.invokevirtual 55, 3) := by decide +kernel
theorem dX6_find_56 : decode cX6_find 56 = .ok (.ifCond .ne 32, 3) := by decide +kernel
theorem dX6_find_59 : decode cX6_find 59 = .ok (.aload_n 0, 1) := by decide +kernel
theorem dX6_find_60 : decode cX6_find 60 = .ok (.getfield 25, 3) := by decide +kernel
theorem dX6_find_63 : decode cX6_find 63 = .ok (.iconst 4, 1) := by decide +kernel
theorem dX6_find_64 : decode cX6_find 64 = .ok (.invokevirtual 61, 3) := by decide +kernel
theorem dX6_find_67 : decode cX6_find 67 = .ok (.ifCond .eq 23, 3) := by decide +kernel
theorem dX6_find_70 : decode cX6_find 70 = .ok (.aload_n 0, 1) := by decide +kernel
theorem dX6_find_71 : decode cX6_find 71 = .ok (.getfield 33, 3) := by decide +kernel
theorem dX6_find_74 : decode cX6_find 74 = .ok (.aload_n 0, 1) := by decide +kernel
theorem dX6_find_75 : decode cX6_find 75 = .ok (.getfield 12, 3) := by decide +kernel
theorem dX6_find_78 : decode cX6_find 78 = .ok (.aload_n 1, 1) := by decide +kernel
theorem dX6_find_79 : decode cX6_find 79 = .ok (.getfield 52, 3) := by decide +kernel
theorem dX6_find_82 : decode cX6_find 82 = .ok (.invokevirtual 55, 3) := by decide +kernel
theorem dX6_find_85 : decode cX6_find 85 = .ok (.ifCond .eq 5, 3) := by decide +kernel
theorem dX6_find_88 : decode cX6_find 88 = .ok (.iconst 1, 1) := by decide +kernel
theorem dX6_find_89 : decode cX6_find 89 = .ok (.ireturn, 1) := by decide +kernel
theorem dX6_find_90 : decode cX6_find 90 = .ok (.aload_n 0, 1) := by decide +kernel
theorem dX6_find_91 : decode cX6_find 91 = .ok (.getfield 12, 3) := by decide +kernel
theorem dX6_find_94 : decode cX6_find 94 = .ok (.getfield 67, 3) := by decide +kernel
theorem dX6_find_97 : decode cX6_find 97 = .ok (.aload_n 0, 1) := by decide +kernel
theorem dX6_find_98 : decode cX6_find 98 = .ok (.getfield 12, 3) := by decide +kernel
theorem dX6_find_101 : decode cX6_find 101 = .ok (.getfield 52, 3) := by decide +kernel
theorem dX6_find_104 : decode cX6_find 104 = .ok (.laload, 1) := by decide +kernel
theorem dX6_find_105 : decode cX6_find 105 = .ok (.lstore_n 2, 1) := by decide +kernel
theorem dX6_find_106 : decode cX6_find 106 = .ok (.iconst 0, 1) := by decide +kernel
theorem dX6_find_107 : decode cX6_find 107 = .ok (.istore 4, 2) := by decide +kernel
theorem dX6_find_109 : decode cX6_find 109 = .ok (.iload 4, 2) := by decide +kernel
theorem dX6_find_111 : decode cX6_find 111 = .ok (.bipush 64, 2) := by decide +kernel
theorem dX6_find_113 : decode cX6_find 113 = .ok (.if_icmp .ge 118, 3) := by decide +kernel
theorem dX6_find_116 : decode cX6_find 116 = .ok (.lload_n 2, 1) := by decide +kernel
theorem dX6_find_117 : decode cX6_find 117 = .ok (.lconst 0, 1) := by decide +kernel
theorem dX6_find_118 : decode cX6_find 118 = .ok (.lcmp, 1) := by decide +kernel
theorem dX6_find_119 : decode cX6_find 119 = .ok (.ifCond .eq 112, 3) := by decide +kernel
theorem dX6_find_122 : decode cX6_find 122 = .ok (.aload_n 0, 1) := by decide +kernel
theorem dX6_find_123 : decode cX6_find 123 = .ok (.getfield 41, 3) := by decide +kernel
theorem dX6_find_126 : decode cX6_find 126 = .ok (.ifCond .ne 105, 3) := by decide +kernel
theorem dX6_find_129 : decode cX6_find 129 = .ok (.lload_n 2, 1) := by decide +kernel
theorem dX6_find_130 : decode cX6_find 130 = .ok (.invokestatic 71, 3) := by decide +kernel
theorem dX6_find_133 : decode cX6_find 133 = .ok (.istore 5, 2) := by decide +kernel
theorem dX6_find_135 : decode cX6_find 135 = .ok (.lload_n 2, 1) := by decide +kernel
theorem dX6_find_136 : decode cX6_find 136 = .ok (.lload_n 2, 1) := by decide +kernel
theorem dX6_find_137 : decode cX6_find 137 = .ok (.lconst 1, 1) := by decide +kernel
theorem dX6_find_138 : decode cX6_find 138 = .ok (.lsub, 1) := by decide +kernel
theorem dX6_find_139 : decode cX6_find 139 = .ok (.land, 1) := by decide +kernel
theorem dX6_find_140 : decode cX6_find 140 = .ok (.lstore_n 2, 1) := by decide +kernel
theorem dX6_find_141 : decode cX6_find 141 = .ok (.aload_n 0, 1) := by decide +kernel
theorem dX6_find_142 : decode cX6_find 142 = .ok (.getfield 12, 3) := by decide +kernel
theorem dX6_find_145 : decode cX6_find 145 = .ok (.getfield 75, 3) := by decide +kernel
theorem dX6_find_148 : decode cX6_find 148 = .ok (.iload 5, 2) := by decide +kernel
theorem dX6_find_150 : decode cX6_find 150 = .ok (.baload, 1) := by decide +kernel
theorem dX6_find_151 : decode cX6_find 151 = .ok (.iconst 1, 1) := by decide +kernel
theorem dX6_find_152 : decode cX6_find 152 = .ok (.ishr, 1) := by decide +kernel
theorem dX6_find_153 : decode cX6_find 153 = .ok (.istore 6, 2) := by decide +kernel
theorem dX6_find_155 : decode cX6_find 155 = .ok (.aload_n 0, 1) := by decide +kernel
theorem dX6_find_156 : decode cX6_find 156 = .ok (.iload 5, 2) := by decide +kernel
theorem dX6_find_158 : decode cX6_find 158 = .ok (.iload 6, 2) := by decide +kernel
theorem dX6_find_160 : decode cX6_find 160 = .ok (.invokevirtual 79, 3) := by decide +kernel
theorem dX6_find_163 : decode cX6_find 163 = .ok (.iconst 0, 1) := by decide +kernel
theorem dX6_find_164 : decode cX6_find 164 = .ok (.istore 7, 2) := by decide +kernel
theorem dX6_find_166 : decode cX6_find 166 = .ok (.iload 7, 2) := by decide +kernel
theorem dX6_find_168 : decode cX6_find 168 = .ok (.aload_n 0, 1) := by decide +kernel
theorem dX6_find_169 : decode cX6_find 169 = .ok (.getfield 25, 3) := by decide +kernel
theorem dX6_find_172 : decode cX6_find 172 = .ok (.getfield 83, 3) := by decide +kernel
theorem dX6_find_175 : decode cX6_find 175 = .ok (.if_icmp .ge 50, 3) := by decide +kernel
theorem dX6_find_178 : decode cX6_find 178 = .ok (.aload_n 0, 1) := by decide +kernel
theorem dX6_find_179 : decode cX6_find 179 = .ok (.getfield 25, 3) := by decide +kernel
theorem dX6_find_182 : decode cX6_find 182 = .ok (.iload 5, 2) := by decide +kernel
theorem dX6_find_184 : decode cX6_find 184 = .ok (.aload_n 0, 1) := by decide +kernel
theorem dX6_find_185 : decode cX6_find 185 = .ok (.getfield 12, 3) := by decide +kernel
theorem dX6_find_188 : decode cX6_find 188 = .ok (.getfield 52, 3) := by decide +kernel
theorem dX6_find_191 : decode cX6_find 191 = .ok (.invokevirtual 86, 3) := by decide +kernel
theorem dX6_find_194 : decode cX6_find 194 = .ok (.ifCond .eq 31, 3) := by decide +kernel
theorem dX6_find_197 : decode cX6_find 197 = .ok (.aload_n 0, 1) := by decide +kernel
theorem dX6_find_198 : decode cX6_find 198 = .ok (.getfield 25, 3) := by decide +kernel
theorem dX6_find_201 : decode cX6_find 201 = .ok (.iload 7, 2) := by decide +kernel
theorem dX6_find_203 : decode cX6_find 203 = .ok (.iload 6, 2) := by decide +kernel
theorem dX6_find_205 : decode cX6_find 205 = .ok (.invokevirtual 90, 3) := by decide +kernel
theorem dX6_find_208 : decode cX6_find 208 = .ok (.ifCond .eq 11, 3) := by decide +kernel
theorem dX6_find_211 : decode cX6_find 211 = .ok (.aload_n 0, 1) := by decide +kernel
theorem dX6_find_212 : decode cX6_find 212 = .ok (.iload 5, 2) := by decide +kernel
theorem dX6_find_214 : decode cX6_find 214 = .ok (.iload 7, 2) := by decide +kernel
theorem dX6_find_216 : decode cX6_find 216 = .ok (.invokevirtual 79, 3) := by decide +kernel
theorem dX6_find_219 : decode cX6_find 219 = .ok (.iinc 7 1, 3) := by decide +kernel
theorem dX6_find_222 : decode cX6_find 222 = .ok (.goto (-56), 3) := by decide +kernel
theorem dX6_find_225 : decode cX6_find 225 = .ok (.iinc 4 1, 3) := by decide +kernel
theorem dX6_find_228 : decode cX6_find 228 = .ok (.goto (-119), 3) := by decide +kernel
theorem dX6_find_231 : decode cX6_find 231 = .ok (.aload_n 0, 1) := by decide +kernel
theorem dX6_find_232 : decode cX6_find 232 = .ok (.getfield 41, 3) := by decide +kernel
theorem dX6_find_235 : decode cX6_find 235 = .ok (.ifCond .eq 8, 3) := by decide +kernel
theorem dX6_find_238 : decode cX6_find 238 = .ok (.aload_n 0, 1) := by decide +kernel
theorem dX6_find_239 : decode cX6_find 239 = .ok (.iconst 0, 1) := by decide +kernel
theorem dX6_find_240 : decode cX6_find 240 = .ok (.putfield 37, 3) := by decide +kernel
theorem dX6_find_243 : decode cX6_find 243 = .ok (.aload_n 0, 1) := by decide +kernel
theorem dX6_find_244 : decode cX6_find 244 = .ok (.getfield 41, 3) := by decide +kernel
theorem dX6_find_247 : decode cX6_find 247 = .ok (.ifCond .ne 7, 3) := by decide +kernel
theorem dX6_find_250 : decode cX6_find 250 = .ok (.iconst 1, 1) := by decide +kernel
theorem dX6_find_251 : decode cX6_find 251 = .ok (.goto 4, 3) := by decide +kernel
theorem dX6_find_254 : decode cX6_find 254 = .ok (.iconst 0, 1) := by decide +kernel
theorem dX6_find_255 : decode cX6_find 255 = .ok (.ireturn, 1) := by decide +kernel
set_option maxRecDepth 20000 in
theorem moX6_find_88 {o : Int32 × Hp} {F : Nat} {h : Hp} (hE : sX6_find_88 F h  = some o) : Le h o.2 := by
  exact le_some2 hE
set_option maxRecDepth 20000 in
theorem moX6_find_255 {o : Int32 × Hp} {F : Nat} {h : Hp} {t0 : Int32} (hE : sX6_find_255 F h  t0 = some o) : Le h o.2 := by
  obtain ⟨g_1, hE⟩ := gd_e hE
  exact le_some2 hE
set_option maxRecDepth 20000 in
theorem moX6_find_243 {o : Int32 × Hp} {F : Nat} {h : Hp} {x0 : Nat} (hE : sX6_find_243 F h x0 = some o) : Le h o.2 := by
  rcases br_e hE with ⟨_, hE⟩ | ⟨_, hE⟩
  · exact moX6_find_255 hE
  · exact moX6_find_255 hE
set_option maxRecDepth 20000 in
theorem moX6_find_231 {o : Int32 × Hp} {F : Nat} {h : Hp} {x0 : Nat} (hE : sX6_find_231 F h x0 = some o) : Le h o.2 := by
  rcases br_e hE with ⟨_, hE⟩ | ⟨_, hE⟩
  · exact moX6_find_243 hE
  · obtain ⟨h_2, eh_2, hE⟩ := nm_e2 hE
    refine (le_I eh_2).tr ?_
    exact moX6_find_243 hE
set_option maxRecDepth 20000 in
theorem moX6_find_225 {o : Int32 × Hp} {k_109 : Hp → Nat → Int64 → Int32 → Option (Int32 × Hp)} {F : Nat} (mk_109 : ∀ (h : Hp) (x0 : Nat) (x2 : Int64) (x4 : Int32), k_109 h x0 x2 x4 = some o → Le h o.2) {h : Hp} {x0 : Nat} {x2 : Int64} {x4 : Int32} (hE : sX6_find_225 F k_109 h x0 x2 x4 = some o) : Le h o.2 := by
  obtain ⟨v_1, ev_1, hE⟩ := nm_e2 hE
  exact mk_109 _ _ _ _ hE
set_option maxRecDepth 20000 in
theorem moX6_find_219 {o : Int32 × Hp} {k_109 : Hp → Nat → Int64 → Int32 → Option (Int32 × Hp)} {k_166 : Hp → Nat → Int64 → Int32 → Int32 → Int32 → Int32 → Option (Int32 × Hp)} {F : Nat} (mk_109 : ∀ (h : Hp) (x0 : Nat) (x2 : Int64) (x4 : Int32), k_109 h x0 x2 x4 = some o → Le h o.2) (mk_166 : ∀ (h : Hp) (x0 : Nat) (x2 : Int64) (x4 : Int32) (x5 : Int32) (x6 : Int32) (x7 : Int32), k_166 h x0 x2 x4 x5 x6 x7 = some o → Le h o.2) {h : Hp} {x0 : Nat} {x2 : Int64} {x4 : Int32} {x5 : Int32} {x6 : Int32} {x7 : Int32} (hE : sX6_find_219 F k_109 k_166 h x0 x2 x4 x5 x6 x7 = some o) : Le h o.2 := by
  obtain ⟨v_1, ev_1, hE⟩ := nm_e2 hE
  exact mk_166 _ _ _ _ _ _ _ hE
set_option maxRecDepth 20000 in
theorem moX6_find_166 {o : Int32 × Hp} {k_109 : Hp → Nat → Int64 → Int32 → Option (Int32 × Hp)} {F : Nat} (mk_109 : ∀ (h : Hp) (x0 : Nat) (x2 : Int64) (x4 : Int32), k_109 h x0 x2 x4 = some o → Le h o.2) : ∀ (f : Nat) {h : Hp} {x0 : Nat} {x2 : Int64} {x4 : Int32} {x5 : Int32} {x6 : Int32} {x7 : Int32}, sX6_find_166 F k_109 f h x0 x2 x4 x5 x6 x7 = some o → Le h o.2 := by
  intro f
  induction f with
  | zero =>
    intro h x0 x2 x4 x5 x6 x7 hE
    rw [sX6_find_166] at hE
    cases hE
  | succ f ih =>
    intro h x0 x2 x4 x5 x6 x7 hE
    rw [sX6_find_166] at hE
    have mk_166 : ∀ (h : Hp) (x0 : Nat) (x2 : Int64) (x4 : Int32) (x5 : Int32) (x6 : Int32) (x7 : Int32), sX6_find_166 F k_109 f h x0 x2 x4 x5 x6 x7 = some o → Le h o.2 := fun h x0 x2 x4 x5 x6 x7 hE => ih hE
    obtain ⟨r_1, er_1, hE⟩ := cl_e hE
    rcases br_e hE with ⟨_, hE⟩ | ⟨_, hE⟩
    · exact moX6_find_225 mk_109 hE
    · obtain ⟨r_3, er_3, hE⟩ := cl_e hE
      obtain ⟨r_4, er_4, hE⟩ := cl_e hE
      obtain ⟨o_5, eo_5, hE⟩ := cl_e hE
      refine (moX1_isLast eo_5).tr ?_
      rcases br_e hE with ⟨_, hE⟩ | ⟨_, hE⟩
      · exact moX6_find_225 mk_109 hE
      · obtain ⟨r_7, er_7, hE⟩ := cl_e hE
        obtain ⟨o_8, eo_8, hE⟩ := cl_e hE
        refine (moX1_becomesThis eo_8).tr ?_
        rcases br_e hE with ⟨_, hE⟩ | ⟨_, hE⟩
        · exact moX6_find_219 mk_109 mk_166 hE
        · obtain ⟨o_10, eo_10, hE⟩ := cl_e hE
          refine (moX6_takeBack eo_10).tr ?_
          exact moX6_find_219 mk_109 mk_166 hE
set_option maxRecDepth 20000 in
theorem moX6_find_109 {o : Int32 × Hp} {F : Nat} : ∀ (f : Nat) {h : Hp} {x0 : Nat} {x2 : Int64} {x4 : Int32}, sX6_find_109 F f h x0 x2 x4 = some o → Le h o.2 := by
  intro f
  induction f with
  | zero =>
    intro h x0 x2 x4 hE
    rw [sX6_find_109] at hE
    cases hE
  | succ f ih =>
    intro h x0 x2 x4 hE
    rw [sX6_find_109] at hE
    have mk_109 : ∀ (h : Hp) (x0 : Nat) (x2 : Int64) (x4 : Int32), sX6_find_109 F f h x0 x2 x4 = some o → Le h o.2 := fun h x0 x2 x4 hE => ih hE
    rcases br_e hE with ⟨_, hE⟩ | ⟨_, hE⟩
    · exact moX6_find_231 hE
    · rcases br_e hE with ⟨_, hE⟩ | ⟨_, hE⟩
      · exact moX6_find_231 hE
      · rcases br_e hE with ⟨_, hE⟩ | ⟨_, hE⟩
        · obtain ⟨o_4, eo_4, hE⟩ := cl_e hE
          refine (moX11_lowest eo_4).tr ?_
          obtain ⟨v_5, ev_5, hE⟩ := nm_e2 hE
          obtain ⟨r_6, er_6, hE⟩ := cl_e hE
          obtain ⟨r_7, er_7, hE⟩ := cl_e hE
          obtain ⟨g_8, hE⟩ := gd_e hE
          obtain ⟨v_9, ev_9, hE⟩ := nm_e2 hE
          obtain ⟨o_10, eo_10, hE⟩ := cl_e hE
          refine (moX6_takeBack eo_10).tr ?_
          exact moX6_find_166 mk_109 _ hE
        · exact moX6_find_231 hE
set_option maxRecDepth 20000 in
theorem moX6_find_90 {o : Int32 × Hp} {F : Nat} {h : Hp} {x0 : Nat} (hE : sX6_find_90 F h x0 = some o) : Le h o.2 := by
  obtain ⟨r_1, er_1, hE⟩ := cl_e hE
  obtain ⟨r_2, er_2, hE⟩ := cl_e hE
  obtain ⟨r_3, er_3, hE⟩ := cl_e hE
  obtain ⟨g_4, hE⟩ := gd_e hE
  obtain ⟨v_5, ev_5, hE⟩ := nm_e2 hE
  exact moX6_find_109 _ hE
set_option maxRecDepth 20000 in
theorem moX6_find {o : Int32 × Hp} {F : Nat} {h : Hp} {x0 : Nat} {x1 : Nat} (hE : sX6_find F h x0 x1 = some o) : Le h o.2 := by
  obtain ⟨h_1, eh_1, hE⟩ := nm_e2 hE
  refine (le_I eh_1).tr ?_
  obtain ⟨h_2, eh_2, hE⟩ := nm_e2 hE
  refine (le_I eh_2).tr ?_
  obtain ⟨r_3, er_3, hE⟩ := cl_e hE
  obtain ⟨o_4, eo_4, hE⟩ := cl_e hE
  refine (moX3_copyFrom eo_4).tr ?_
  obtain ⟨r_5, er_5, hE⟩ := cl_e hE
  obtain ⟨o_6, eo_6, hE⟩ := cl_e hE
  refine (moX3_strip eo_6).tr ?_
  obtain ⟨r_7, er_7, hE⟩ := cl_e hE
  obtain ⟨h_8, eh_8, hE⟩ := nm_e2 hE
  refine (le_I eh_8).tr ?_
  obtain ⟨r_9, er_9, hE⟩ := cl_e hE
  obtain ⟨r_10, er_10, hE⟩ := cl_e hE
  obtain ⟨r_11, er_11, hE⟩ := cl_e hE
  obtain ⟨o_12, eo_12, hE⟩ := cl_e hE
  refine (moX5_isRoyalHit eo_12).tr ?_
  rcases br_e hE with ⟨_, hE⟩ | ⟨_, hE⟩
  · obtain ⟨r_14, er_14, hE⟩ := cl_e hE
    obtain ⟨o_15, eo_15, hE⟩ := cl_e hE
    refine (moX1_has eo_15).tr ?_
    rcases br_e hE with ⟨_, hE⟩ | ⟨_, hE⟩
    · exact moX6_find_90 hE
    · obtain ⟨r_17, er_17, hE⟩ := cl_e hE
      obtain ⟨r_18, er_18, hE⟩ := cl_e hE
      obtain ⟨o_19, eo_19, hE⟩ := cl_e hE
      refine (moX5_isRoyalHit eo_19).tr ?_
      rcases br_e hE with ⟨_, hE⟩ | ⟨_, hE⟩
      · exact moX6_find_90 hE
      · exact moX6_find_88 hE
  · exact moX6_find_88 hE
set_option maxRecDepth 20000 in
theorem bX6_find_88 {p : Program} {l : Launch} {e : Env} {s : State} {m : MethodId} {args : Array Value} {below : List Frame} {meth : Method} {c : Code} {X : Ec} {h0 : Hp} {o : Int32 × Hp} {F : Nat} (C : Cx X p s m args meth c RX6 cX6_find 8 (some .boolean) "find") {h : Hp} {H : Heap} {locs : List Loc} (hkm : Km h0 h) (hW : Wx X h H) (hZ : va_S (aA (eB X)) s.heap H locs) (ls : Array Slot) (hl : lv_has ls 8 []) (hE : sX6_find_88 F h  = some o) : W p l e (rm 6 190) s m args below meth c H locs 0 0 (MQ below (QI X h0 o.1 o.2) args s 0 0 (aA (eB X))) (F0 m 88 ls []) := by
  refine lv_iconst (v := (1 : Int32)) C.1 C.2.1 dX6_find_88 (by decide) ?_
  exact x_iret C rfl (by decide) hW hZ hkm hE dX6_find_89
set_option maxRecDepth 20000 in
theorem bX6_find_255 {p : Program} {l : Launch} {e : Env} {s : State} {m : MethodId} {args : Array Value} {below : List Frame} {meth : Method} {c : Code} {X : Ec} {h0 : Hp} {o : Int32 × Hp} {F : Nat} (C : Cx X p s m args meth c RX6 cX6_find 8 (some .boolean) "find") {h : Hp} {t0 : Int32} {H : Heap} {locs : List Loc} (hkm : Km h0 h) (hW : Wx X h H) (hZ : va_S (aA (eB X)) s.heap H locs) (ls : Array Slot) (hl : lv_has ls 8 []) (hE : sX6_find_255 F h  t0 = some o) : W p l e (rm 6 190) s m args below meth c H locs 0 0 (MQ below (QI X h0 o.1 o.2) args s 0 0 (aA (eB X))) (F0 m 255 ls [.int t0]) := by
  obtain ⟨g_1, hE⟩ := gd_e hE
  exact x_iret C rfl (narB g_1) hW hZ hkm hE dX6_find_255
set_option maxRecDepth 20000 in
theorem bX6_find_243 {p : Program} {l : Launch} {e : Env} {s : State} {m : MethodId} {args : Array Value} {below : List Frame} {meth : Method} {c : Code} {X : Ec} {h0 : Hp} {o : Int32 × Hp} {F : Nat} (C : Cx X p s m args meth c RX6 cX6_find 8 (some .boolean) "find") {h : Hp} {x0 : Nat} {H : Heap} {locs : List Loc} (k_x0 : hK h x0 = 6) (hkm : Km h0 h) (hW : Wx X h H) (hZ : va_S (aA (eB X)) s.heap H locs) (ls : Array Slot) (hl : lv_has ls 8 [(0, .ref x0)]) (hE : sX6_find_243 F h x0 = some o) : W p l e (rm 6 190) s m args below meth c H locs 0 0 (MQ below (QI X h0 o.1 o.2) args s 0 0 (aA (eB X))) (F0 m 243 ls []) := by
  refine lv_aload_n C.1 C.2.1 dX6_find_243 rfl (lv_at hl 0 rfl) ?_
  refine gf_X6_41 C hW k_x0 dX6_find_244 ?_
  refine lv_if_ne (tgt := 254) C.1 C.2.1 dX6_find_247 (by decide) (fun c_1 => ?_) (fun c_1 => ?_)
  · have hE := br_n hE c_1
    refine lv_iconst (v := (0 : Int32)) C.1 C.2.1 dX6_find_254 (by decide) ?_
    exact bX6_find_255 C hkm hW hZ _ (lv_sub hl [] rfl) hE
  · have hE := br_p hE c_1
    refine lv_iconst (v := (1 : Int32)) C.1 C.2.1 dX6_find_250 (by decide) ?_
    refine lv_goto (tgt := 255) C.1 C.2.1 dX6_find_251 (by decide) ?_
    exact bX6_find_255 C hkm hW hZ _ (lv_sub hl [] rfl) hE
set_option maxRecDepth 20000 in
theorem bX6_find_231 {p : Program} {l : Launch} {e : Env} {s : State} {m : MethodId} {args : Array Value} {below : List Frame} {meth : Method} {c : Code} {X : Ec} {h0 : Hp} {o : Int32 × Hp} {F : Nat} (C : Cx X p s m args meth c RX6 cX6_find 8 (some .boolean) "find") {h : Hp} {x0 : Nat} {H : Heap} {locs : List Loc} (k_x0 : hK h x0 = 6) (hkm : Km h0 h) (hW : Wx X h H) (hZ : va_S (aA (eB X)) s.heap H locs) (ls : Array Slot) (hl : lv_has ls 8 [(0, .ref x0)]) (hE : sX6_find_231 F h x0 = some o) : W p l e (rm 6 190) s m args below meth c H locs 0 0 (MQ below (QI X h0 o.1 o.2) args s 0 0 (aA (eB X))) (F0 m 231 ls []) := by
  refine lv_aload_n C.1 C.2.1 dX6_find_231 rfl (lv_at hl 0 rfl) ?_
  refine gf_X6_41 C hW k_x0 dX6_find_232 ?_
  refine lv_if_eq (tgt := 243) C.1 C.2.1 dX6_find_235 (by decide) (fun c_1 => ?_) (fun c_1 => ?_)
  · have hE := br_p hE c_1
    exact bX6_find_243 C k_x0 hkm hW hZ _ (lv_sub hl [0] rfl) hE
  · have hE := br_n hE c_1
    refine lv_aload_n C.1 C.2.1 dX6_find_238 rfl (lv_at hl 0 rfl) ?_
    refine lv_iconst (v := (0 : Int32)) C.1 C.2.1 dX6_find_239 (by decide) ?_
    obtain ⟨h_2, eh_2, hE⟩ := nm_e2 hE
    refine pf_X6_37 C hW hZ k_x0 eh_2 dX6_find_240 (fun _ _ hW km hZ => ?_)
    replace hkm := hkm.tr km
    replace k_x0 := km.at k_x0 (by decide)
    exact bX6_find_243 C k_x0 hkm hW hZ _ (lv_sub hl [0] rfl) hE
set_option maxRecDepth 20000 in
theorem bX6_find_225 {p : Program} {l : Launch} {e : Env} {s : State} {m : MethodId} {args : Array Value} {below : List Frame} {meth : Method} {c : Code} {X : Ec} {h0 : Hp} {o : Int32 × Hp} {k_109 : Hp → Nat → Int64 → Int32 → Option (Int32 × Hp)} {F : Nat} (C : Cx X p s m args meth c RX6 cX6_find 8 (some .boolean) "find") (hk_109 : ∀ (h : Hp) (x0 : Nat) (x2 : Int64) (x4 : Int32) (H : Heap) (locs : List Loc), hK h x0 = 6 → Km h0 h → Wx X h H → va_S (aA (eB X)) s.heap H locs → ∀ (ls : Array Slot), lv_has ls 8 [(0, .ref x0), (2, .long x2), (4, .int x4)] → k_109 h x0 x2 x4 = some o → W p l e (rm 6 190) s m args below meth c H locs 0 0 (MQ below (QI X h0 o.1 o.2) args s 0 0 (aA (eB X))) (F0 m 109 ls [])) {h : Hp} {x0 : Nat} {x2 : Int64} {x4 : Int32} {H : Heap} {locs : List Loc} (k_x0 : hK h x0 = 6) (hkm : Km h0 h) (hW : Wx X h H) (hZ : va_S (aA (eB X)) s.heap H locs) (ls : Array Slot) (hl : lv_has ls 8 [(0, .ref x0), (2, .long x2), (4, .int x4)]) (hE : sX6_find_225 F k_109 h x0 x2 x4 = some o) : W p l e (rm 6 190) s m args below meth c H locs 0 0 (MQ below (QI X h0 o.1 o.2) args s 0 0 (aA (eB X))) (F0 m 225 ls []) := by
  obtain ⟨v_1, ev_1, hE⟩ := nm_e2 hE
  refine lv_iinc (v := v_1) (lv' := [(4, .int v_1), (0, .ref x0), (2, .long x2)]) C.1 C.2.1 dX6_find_225 hl (k := 2) rfl (by rw [ev_1]; rfl) (by decide) rfl (fun ls hl => ?_)
  refine lv_goto (tgt := 109) C.1 C.2.1 dX6_find_228 (by decide) ?_
  exact hk_109 _ _ _ _ _ _ k_x0 hkm hW hZ _ (lv_sub hl [1, 2, 0] rfl) hE
set_option maxRecDepth 20000 in
theorem bX6_find_219 {p : Program} {l : Launch} {e : Env} {s : State} {m : MethodId} {args : Array Value} {below : List Frame} {meth : Method} {c : Code} {X : Ec} {h0 : Hp} {o : Int32 × Hp} {k_109 : Hp → Nat → Int64 → Int32 → Option (Int32 × Hp)} {k_166 : Hp → Nat → Int64 → Int32 → Int32 → Int32 → Int32 → Option (Int32 × Hp)} {F : Nat} (C : Cx X p s m args meth c RX6 cX6_find 8 (some .boolean) "find") (hk_109 : ∀ (h : Hp) (x0 : Nat) (x2 : Int64) (x4 : Int32) (H : Heap) (locs : List Loc), hK h x0 = 6 → Km h0 h → Wx X h H → va_S (aA (eB X)) s.heap H locs → ∀ (ls : Array Slot), lv_has ls 8 [(0, .ref x0), (2, .long x2), (4, .int x4)] → k_109 h x0 x2 x4 = some o → W p l e (rm 6 190) s m args below meth c H locs 0 0 (MQ below (QI X h0 o.1 o.2) args s 0 0 (aA (eB X))) (F0 m 109 ls [])) (hk_166 : ∀ (h : Hp) (x0 : Nat) (x2 : Int64) (x4 : Int32) (x5 : Int32) (x6 : Int32) (x7 : Int32) (H : Heap) (locs : List Loc), hK h x0 = 6 → Km h0 h → Wx X h H → va_S (aA (eB X)) s.heap H locs → ∀ (ls : Array Slot), lv_has ls 8 [(0, .ref x0), (2, .long x2), (4, .int x4), (5, .int x5), (6, .int x6), (7, .int x7)] → k_166 h x0 x2 x4 x5 x6 x7 = some o → W p l e (rm 6 190) s m args below meth c H locs 0 0 (MQ below (QI X h0 o.1 o.2) args s 0 0 (aA (eB X))) (F0 m 166 ls [])) {h : Hp} {x0 : Nat} {x2 : Int64} {x4 : Int32} {x5 : Int32} {x6 : Int32} {x7 : Int32} {H : Heap} {locs : List Loc} (k_x0 : hK h x0 = 6) (hkm : Km h0 h) (hW : Wx X h H) (hZ : va_S (aA (eB X)) s.heap H locs) (ls : Array Slot) (hl : lv_has ls 8 [(0, .ref x0), (2, .long x2), (4, .int x4), (5, .int x5), (6, .int x6), (7, .int x7)]) (hE : sX6_find_219 F k_109 k_166 h x0 x2 x4 x5 x6 x7 = some o) : W p l e (rm 6 190) s m args below meth c H locs 0 0 (MQ below (QI X h0 o.1 o.2) args s 0 0 (aA (eB X))) (F0 m 219 ls []) := by
  obtain ⟨v_1, ev_1, hE⟩ := nm_e2 hE
  refine lv_iinc (v := v_1) (lv' := [(7, .int v_1), (0, .ref x0), (2, .long x2), (4, .int x4), (5, .int x5), (6, .int x6)]) C.1 C.2.1 dX6_find_219 hl (k := 5) rfl (by rw [ev_1]; rfl) (by decide) rfl (fun ls hl => ?_)
  refine lv_goto (tgt := 166) C.1 C.2.1 dX6_find_222 (by decide) ?_
  exact hk_166 _ _ _ _ _ _ _ _ _ k_x0 hkm hW hZ _ (lv_sub hl [1, 2, 3, 4, 5, 0] rfl) hE
set_option maxRecDepth 20000 in
theorem bX6_find_166 {p : Program} {l : Launch} {e : Env} {s : State} {m : MethodId} {args : Array Value} {below : List Frame} {meth : Method} {c : Code} {X : Ec} {h0 : Hp} {o : Int32 × Hp} {k_109 : Hp → Nat → Int64 → Int32 → Option (Int32 × Hp)} {F : Nat} (C : Cx X p s m args meth c RX6 cX6_find 8 (some .boolean) "find") (hk_109 : ∀ (h : Hp) (x0 : Nat) (x2 : Int64) (x4 : Int32) (H : Heap) (locs : List Loc), hK h x0 = 6 → Km h0 h → Wx X h H → va_S (aA (eB X)) s.heap H locs → ∀ (ls : Array Slot), lv_has ls 8 [(0, .ref x0), (2, .long x2), (4, .int x4)] → k_109 h x0 x2 x4 = some o → W p l e (rm 6 190) s m args below meth c H locs 0 0 (MQ below (QI X h0 o.1 o.2) args s 0 0 (aA (eB X))) (F0 m 109 ls [])) : ∀ (f : Nat) {h : Hp} {x0 : Nat} {x2 : Int64} {x4 : Int32} {x5 : Int32} {x6 : Int32} {x7 : Int32} {H : Heap} {locs : List Loc} (k_x0 : hK h x0 = 6), Km h0 h → Wx X h H → va_S (aA (eB X)) s.heap H locs → ∀ (ls : Array Slot), lv_has ls 8 [(0, .ref x0), (2, .long x2), (4, .int x4), (5, .int x5), (6, .int x6), (7, .int x7)] → sX6_find_166 F k_109 f h x0 x2 x4 x5 x6 x7 = some o → W p l e (rm 6 190) s m args below meth c H locs 0 0 (MQ below (QI X h0 o.1 o.2) args s 0 0 (aA (eB X))) (F0 m 166 ls []) := by
  intro f
  induction f with
  | zero =>
    intro h x0 x2 x4 x5 x6 x7 H locs k_x0 hkm hW hZ ls hl hE
    rw [sX6_find_166] at hE
    cases hE
  | succ f ih =>
    intro h x0 x2 x4 x5 x6 x7 H locs k_x0 hkm hW hZ ls hl hE
    rw [sX6_find_166] at hE
    have hk_166 : ∀ (h : Hp) (x0 : Nat) (x2 : Int64) (x4 : Int32) (x5 : Int32) (x6 : Int32) (x7 : Int32) (H : Heap) (locs : List Loc), hK h x0 = 6 → Km h0 h → Wx X h H → va_S (aA (eB X)) s.heap H locs → ∀ (ls : Array Slot), lv_has ls 8 [(0, .ref x0), (2, .long x2), (4, .int x4), (5, .int x5), (6, .int x6), (7, .int x7)] → sX6_find_166 F k_109 f h x0 x2 x4 x5 x6 x7 = some o → W p l e (rm 6 190) s m args below meth c H locs 0 0 (MQ below (QI X h0 o.1 o.2) args s 0 0 (aA (eB X))) (F0 m 166 ls []) := fun h x0 x2 x4 x5 x6 x7 H locs k_x0 a b c ls hl hE => ih k_x0 a b c ls hl hE
    refine lv_iload C.1 C.2.1 dX6_find_166 (lv_at hl 5 rfl) ?_
    refine lv_aload_n C.1 C.2.1 dX6_find_168 rfl (lv_at hl 0 rfl) ?_
    obtain ⟨r_1, er_1, hE⟩ := cl_e hE
    refine gf_X6_25 C hW k_x0 er_1 dX6_find_169 (fun k_r_1 => ?_)
    refine gf_X6_83 C hW k_r_1 dX6_find_172 ?_
    refine lv_icmp_ge (tgt := 225) C.1 C.2.1 dX6_find_175 (by decide) (fun c_2 => ?_) (fun c_2 => ?_)
    · have hE := br_p hE c_2
      exact bX6_find_225 C hk_109 k_x0 hkm hW hZ _ (lv_sub hl [0, 1, 2] rfl) hE
    · have hE := br_n hE c_2
      refine lv_aload_n C.1 C.2.1 dX6_find_178 rfl (lv_at hl 0 rfl) ?_
      obtain ⟨r_3, er_3, hE⟩ := cl_e hE
      refine gf_X6_25 C hW k_x0 er_3 dX6_find_179 (fun k_r_3 => ?_)
      refine lv_iload C.1 C.2.1 dX6_find_182 (lv_at hl 3 rfl) ?_
      refine lv_aload_n C.1 C.2.1 dX6_find_184 rfl (lv_at hl 0 rfl) ?_
      obtain ⟨r_4, er_4, hE⟩ := cl_e hE
      refine gf_X6_12 C hW k_x0 er_4 dX6_find_185 (fun k_r_4 => ?_)
      refine gf_X6_52 C hW k_r_4 dX6_find_188 ?_
      obtain ⟨o_5, eo_5, hE⟩ := cl_e hE
      refine x_kI (o := o_5) (z_runV (As := [.int x5, .int (hI h r_4 5)]) (rest := []) C (ct_X1_isLast l X k_r_3 eo_5) cw_X6_86 hW hZ k_r_3 (by decide) rfl rfl rfl hl.1 (Nat.le_of_ble_eq_true rfl) rfl dX6_find_191 ⟨Nat.le_of_ble_eq_true rfl, Nat.le_of_ble_eq_true rfl⟩ ⟨Nat.le_refl _, Nat.le_refl _⟩) hZ (fun _ _ hW km hZ => ?_)
      replace hkm := hkm.tr km
      replace k_x0 := km.at k_x0 (by decide)
      refine lv_if_eq (tgt := 225) C.1 C.2.1 dX6_find_194 (by decide) (fun c_6 => ?_) (fun c_6 => ?_)
      · have hE := br_p hE c_6
        exact bX6_find_225 C hk_109 k_x0 hkm hW hZ _ (lv_sub hl [0, 1, 2] rfl) hE
      · have hE := br_n hE c_6
        refine lv_aload_n C.1 C.2.1 dX6_find_197 rfl (lv_at hl 0 rfl) ?_
        obtain ⟨r_7, er_7, hE⟩ := cl_e hE
        refine gf_X6_25 C hW k_x0 er_7 dX6_find_198 (fun k_r_7 => ?_)
        refine lv_iload C.1 C.2.1 dX6_find_201 (lv_at hl 5 rfl) ?_
        refine lv_iload C.1 C.2.1 dX6_find_203 (lv_at hl 4 rfl) ?_
        obtain ⟨o_8, eo_8, hE⟩ := cl_e hE
        refine x_kI (o := o_8) (z_runV (As := [.int x7, .int x6]) (rest := []) C (ct_X1_becomesThis l X F k_r_7 eo_8) cw_X6_90 hW hZ k_r_7 (by decide) rfl rfl rfl hl.1 (Nat.le_of_ble_eq_true rfl) rfl dX6_find_205 ⟨Nat.le_of_ble_eq_true rfl, Nat.le_of_ble_eq_true rfl⟩ ⟨Nat.le_refl _, Nat.le_refl _⟩) hZ (fun _ _ hW km hZ => ?_)
        replace hkm := hkm.tr km
        replace k_x0 := km.at k_x0 (by decide)
        refine lv_if_eq (tgt := 219) C.1 C.2.1 dX6_find_208 (by decide) (fun c_9 => ?_) (fun c_9 => ?_)
        · have hE := br_p hE c_9
          exact bX6_find_219 C hk_109 hk_166 k_x0 hkm hW hZ _ (lv_sub hl [0, 1, 2, 3, 4, 5] rfl) hE
        · have hE := br_n hE c_9
          refine lv_aload_n C.1 C.2.1 dX6_find_211 rfl (lv_at hl 0 rfl) ?_
          refine lv_iload C.1 C.2.1 dX6_find_212 (lv_at hl 3 rfl) ?_
          refine lv_iload C.1 C.2.1 dX6_find_214 (lv_at hl 5 rfl) ?_
          obtain ⟨o_10, eo_10, hE⟩ := cl_e hE
          refine x_kV (o := o_10) (z_runV (As := [.int x5, .int x7]) (rest := []) C (ct_X6_takeBack l X F k_x0 eo_10) cw_X6_79 hW hZ k_x0 (by decide) rfl rfl rfl hl.1 (Nat.le_of_ble_eq_true rfl) rfl dX6_find_216 ⟨Nat.le_of_ble_eq_true rfl, Nat.le_of_ble_eq_true rfl⟩ ⟨Nat.le_refl _, Nat.le_refl _⟩) hZ (fun _ _ hW km hZ => ?_)
          replace hkm := hkm.tr km
          replace k_x0 := km.at k_x0 (by decide)
          exact bX6_find_219 C hk_109 hk_166 k_x0 hkm hW hZ _ (lv_sub hl [0, 1, 2, 3, 4, 5] rfl) hE
set_option maxRecDepth 20000 in
theorem bX6_find_109 {p : Program} {l : Launch} {e : Env} {s : State} {m : MethodId} {args : Array Value} {below : List Frame} {meth : Method} {c : Code} {X : Ec} {h0 : Hp} {o : Int32 × Hp} {F : Nat} (C : Cx X p s m args meth c RX6 cX6_find 8 (some .boolean) "find") : ∀ (f : Nat) {h : Hp} {x0 : Nat} {x2 : Int64} {x4 : Int32} {H : Heap} {locs : List Loc} (k_x0 : hK h x0 = 6), Km h0 h → Wx X h H → va_S (aA (eB X)) s.heap H locs → ∀ (ls : Array Slot), lv_has ls 8 [(0, .ref x0), (2, .long x2), (4, .int x4)] → sX6_find_109 F f h x0 x2 x4 = some o → W p l e (rm 6 190) s m args below meth c H locs 0 0 (MQ below (QI X h0 o.1 o.2) args s 0 0 (aA (eB X))) (F0 m 109 ls []) := by
  intro f
  induction f with
  | zero =>
    intro h x0 x2 x4 H locs k_x0 hkm hW hZ ls hl hE
    rw [sX6_find_109] at hE
    cases hE
  | succ f ih =>
    intro h x0 x2 x4 H locs k_x0 hkm hW hZ ls hl hE
    rw [sX6_find_109] at hE
    have hk_109 : ∀ (h : Hp) (x0 : Nat) (x2 : Int64) (x4 : Int32) (H : Heap) (locs : List Loc), hK h x0 = 6 → Km h0 h → Wx X h H → va_S (aA (eB X)) s.heap H locs → ∀ (ls : Array Slot), lv_has ls 8 [(0, .ref x0), (2, .long x2), (4, .int x4)] → sX6_find_109 F f h x0 x2 x4 = some o → W p l e (rm 6 190) s m args below meth c H locs 0 0 (MQ below (QI X h0 o.1 o.2) args s 0 0 (aA (eB X))) (F0 m 109 ls []) := fun h x0 x2 x4 H locs k_x0 a b c ls hl hE => ih k_x0 a b c ls hl hE
    refine lv_iload C.1 C.2.1 dX6_find_109 (lv_at hl 2 rfl) ?_
    refine lv_bipush (v := (64 : Int32)) C.1 C.2.1 dX6_find_111 (by decide) ?_
    refine lv_icmp_ge (tgt := 231) C.1 C.2.1 dX6_find_113 (by decide) (fun c_1 => ?_) (fun c_1 => ?_)
    · have hE := br_p hE c_1
      exact bX6_find_231 C k_x0 hkm hW hZ _ (lv_sub hl [0] rfl) hE
    · have hE := br_n hE c_1
      refine lv_lload_n C.1 C.2.1 dX6_find_116 rfl (lv_at hl 1 rfl) ?_
      refine lv_lconst (v := (0 : Int64)) C.1 C.2.1 dX6_find_117 (by decide) ?_
      refine W.lcmp C.1 C.2.1 dX6_find_118 ?_
      refine lv_if_eq (tgt := 231) C.1 C.2.1 dX6_find_119 (by decide) (fun c_2 => ?_) (fun c_2 => ?_)
      · have hE := br_p hE c_2
        exact bX6_find_231 C k_x0 hkm hW hZ _ (lv_sub hl [0] rfl) hE
      · have hE := br_n hE c_2
        refine lv_aload_n C.1 C.2.1 dX6_find_122 rfl (lv_at hl 0 rfl) ?_
        refine gf_X6_41 C hW k_x0 dX6_find_123 ?_
        refine lv_if_ne (tgt := 231) C.1 C.2.1 dX6_find_126 (by decide) (fun c_3 => ?_) (fun c_3 => ?_)
        · have hE := br_n hE c_3
          exact bX6_find_231 C k_x0 hkm hW hZ _ (lv_sub hl [0] rfl) hE
        · have hE := br_p hE c_3
          refine lv_lload_n C.1 C.2.1 dX6_find_129 rfl (lv_at hl 1 rfl) ?_
          obtain ⟨o_4, eo_4, hE⟩ := cl_e hE
          refine x_kI (o := o_4) (x_runSN (As := [.long x2]) (rest := []) C (ct_X11_lowest l X eo_4) cn_X6_71 hW hZ rfl hl.1 (Nat.le_of_ble_eq_true rfl) rfl dX6_find_130 ⟨Nat.le_of_ble_eq_true rfl, Nat.le_of_ble_eq_true rfl⟩ ⟨Nat.le_refl _, Nat.le_refl _⟩) hZ (fun _ _ hW km hZ => ?_)
          replace hkm := hkm.tr km
          replace k_x0 := km.at k_x0 (by decide)
          refine lv_istore (lv' := [(5, .int o_4.1), (0, .ref x0), (2, .long x2), (4, .int x4)]) C.1 C.2.1 dX6_find_133 hl (by decide) rfl (fun ls hl => ?_)
          refine lv_lload_n C.1 C.2.1 dX6_find_135 rfl (lv_at hl 2 rfl) ?_
          refine lv_lload_n C.1 C.2.1 dX6_find_136 rfl (lv_at hl 2 rfl) ?_
          refine lv_lconst (v := (1 : Int64)) C.1 C.2.1 dX6_find_137 (by decide) ?_
          refine lv_lsub C.1 C.2.1 dX6_find_138 ?_
          refine lv_land C.1 C.2.1 dX6_find_139 ?_
          obtain ⟨v_5, ev_5, hE⟩ := nm_e2 hE
          refine x_nmJ ev_5 ?_
          refine lv_lstore_n (lv' := [(2, .long v_5), (5, .int o_4.1), (0, .ref x0), (4, .int x4)]) C.1 C.2.1 dX6_find_140 rfl hl (by decide) rfl (fun ls hl => ?_)
          refine lv_aload_n C.1 C.2.1 dX6_find_141 rfl (lv_at hl 2 rfl) ?_
          obtain ⟨r_6, er_6, hE⟩ := cl_e hE
          refine gf_X6_12 C hW k_x0 er_6 dX6_find_142 (fun k_r_6 => ?_)
          obtain ⟨r_7, er_7, hE⟩ := cl_e hE
          refine gf_X6_75 C hW k_r_6 er_7 dX6_find_145 (fun k_r_7 => ?_)
          refine lv_iload C.1 C.2.1 dX6_find_148 (lv_at hl 1 rfl) ?_
          obtain ⟨g_8, hE⟩ := gd_e hE
          refine y_bald C hW k_r_7 g_8 dX6_find_150 ?_
          refine lv_iconst (v := (1 : Int32)) C.1 C.2.1 dX6_find_151 (by decide) ?_
          refine lv_ishr C.1 C.2.1 dX6_find_152 ?_
          obtain ⟨v_9, ev_9, hE⟩ := nm_e2 hE
          refine x_nmI ev_9 ?_
          refine lv_istore (lv' := [(6, .int v_9), (2, .long v_5), (5, .int o_4.1), (0, .ref x0), (4, .int x4)]) C.1 C.2.1 dX6_find_153 hl (by decide) rfl (fun ls hl => ?_)
          refine lv_aload_n C.1 C.2.1 dX6_find_155 rfl (lv_at hl 3 rfl) ?_
          refine lv_iload C.1 C.2.1 dX6_find_156 (lv_at hl 2 rfl) ?_
          refine lv_iload C.1 C.2.1 dX6_find_158 (lv_at hl 0 rfl) ?_
          obtain ⟨o_10, eo_10, hE⟩ := cl_e hE
          refine x_kV (o := o_10) (z_runV (As := [.int o_4.1, .int v_9]) (rest := []) C (ct_X6_takeBack l X F k_x0 eo_10) cw_X6_79 hW hZ k_x0 (by decide) rfl rfl rfl hl.1 (Nat.le_of_ble_eq_true rfl) rfl dX6_find_160 ⟨Nat.le_of_ble_eq_true rfl, Nat.le_of_ble_eq_true rfl⟩ ⟨Nat.le_refl _, Nat.le_refl _⟩) hZ (fun _ _ hW km hZ => ?_)
          replace hkm := hkm.tr km
          replace k_x0 := km.at k_x0 (by decide)
          refine lv_iconst (v := (0 : Int32)) C.1 C.2.1 dX6_find_163 (by decide) ?_
          refine lv_istore (lv' := [(7, .int (0 : Int32)), (6, .int v_9), (2, .long v_5), (5, .int o_4.1), (0, .ref x0), (4, .int x4)]) C.1 C.2.1 dX6_find_164 hl (by decide) rfl (fun ls hl => ?_)
          exact bX6_find_166 C hk_109 F k_x0 hkm hW hZ _ (lv_sub hl [4, 2, 5, 3, 1, 0] rfl) hE
set_option maxRecDepth 20000 in
theorem bX6_find_90 {p : Program} {l : Launch} {e : Env} {s : State} {m : MethodId} {args : Array Value} {below : List Frame} {meth : Method} {c : Code} {X : Ec} {h0 : Hp} {o : Int32 × Hp} {F : Nat} (C : Cx X p s m args meth c RX6 cX6_find 8 (some .boolean) "find") {h : Hp} {x0 : Nat} {H : Heap} {locs : List Loc} (k_x0 : hK h x0 = 6) (hkm : Km h0 h) (hW : Wx X h H) (hZ : va_S (aA (eB X)) s.heap H locs) (ls : Array Slot) (hl : lv_has ls 8 [(0, .ref x0)]) (hE : sX6_find_90 F h x0 = some o) : W p l e (rm 6 190) s m args below meth c H locs 0 0 (MQ below (QI X h0 o.1 o.2) args s 0 0 (aA (eB X))) (F0 m 90 ls []) := by
  refine lv_aload_n C.1 C.2.1 dX6_find_90 rfl (lv_at hl 0 rfl) ?_
  obtain ⟨r_1, er_1, hE⟩ := cl_e hE
  refine gf_X6_12 C hW k_x0 er_1 dX6_find_91 (fun k_r_1 => ?_)
  obtain ⟨r_2, er_2, hE⟩ := cl_e hE
  refine gf_X6_67 C hW k_r_1 er_2 dX6_find_94 (fun k_r_2 => ?_)
  refine lv_aload_n C.1 C.2.1 dX6_find_97 rfl (lv_at hl 0 rfl) ?_
  obtain ⟨r_3, er_3, hE⟩ := cl_e hE
  refine gf_X6_12 C hW k_x0 er_3 dX6_find_98 (fun k_r_3 => ?_)
  refine gf_X6_52 C hW k_r_3 dX6_find_101 ?_
  obtain ⟨g_4, hE⟩ := gd_e hE
  refine y_lald C hW k_r_2 g_4 dX6_find_104 ?_
  obtain ⟨v_5, ev_5, hE⟩ := nm_e2 hE
  refine x_nmJ ev_5 ?_
  refine lv_lstore_n (lv' := [(2, .long v_5), (0, .ref x0)]) C.1 C.2.1 dX6_find_105 rfl hl (by decide) rfl (fun ls hl => ?_)
  refine lv_iconst (v := (0 : Int32)) C.1 C.2.1 dX6_find_106 (by decide) ?_
  refine lv_istore (lv' := [(4, .int (0 : Int32)), (2, .long v_5), (0, .ref x0)]) C.1 C.2.1 dX6_find_107 hl (by decide) rfl (fun ls hl => ?_)
  exact bX6_find_109 C F k_x0 hkm hW hZ _ (lv_sub hl [2, 1, 0] rfl) hE
set_option maxRecDepth 20000 in
theorem ct_X6_find (l : Launch) (X : Ec) (F : Nat) {h : Hp} {x0 : Nat} {x1 : Nat} {o : Int32 × Hp} (k_x0 : hK h x0 = 6) (k_x1 : hK h x1 = 3) (hE : sX6_find F h x0 x1 = some o) : MetI l yX6_find cX6_find 8 (some .boolean) 6 190 X [.ref x0, .ref x1] h o := by
  refine x_met (by decide) (Nat.le_of_ble_eq_true rfl) ?_
  intro p e s m below meth c ls C hl hW hZ
  have hl : lv_has ls 8 [(0, .ref x0), (1, .ref x1)] := hl
  have hkm : Km h h := Km.rf h
  refine lv_aload_n C.1 C.2.1 dX6_find_0 rfl (lv_at hl 0 rfl) ?_
  refine lv_iconst (v := (0 : Int32)) C.1 C.2.1 dX6_find_1 (by decide) ?_
  obtain ⟨h_1, eh_1, hE⟩ := nm_e2 hE
  refine pf_X6_37 C hW hZ k_x0 eh_1 dX6_find_2 (fun _ _ hW km hZ => ?_)
  replace hkm := hkm.tr km
  replace k_x0 := km.at k_x0 (by decide)
  replace k_x1 := km.at k_x1 (by decide)
  refine lv_aload_n C.1 C.2.1 dX6_find_5 rfl (lv_at hl 0 rfl) ?_
  refine lv_iconst (v := (0 : Int32)) C.1 C.2.1 dX6_find_6 (by decide) ?_
  obtain ⟨h_2, eh_2, hE⟩ := nm_e2 hE
  refine pf_X6_41 C hW hZ k_x0 (by decide) eh_2 dX6_find_7 (fun _ _ hW km hZ => ?_)
  replace hkm := hkm.tr km
  replace k_x0 := km.at k_x0 (by decide)
  replace k_x1 := km.at k_x1 (by decide)
  refine lv_aload_n C.1 C.2.1 dX6_find_10 rfl (lv_at hl 0 rfl) ?_
  obtain ⟨r_3, er_3, hE⟩ := cl_e hE
  refine gf_X6_12 C hW k_x0 er_3 dX6_find_11 (fun k_r_3 => ?_)
  refine lv_aload_n C.1 C.2.1 dX6_find_14 rfl (lv_at hl 1 rfl) ?_
  obtain ⟨o_4, eo_4, hE⟩ := cl_e hE
  refine x_kV (o := o_4) (z_runV (As := [.ref x1]) (rest := []) C (ct_X3_copyFrom l X F k_r_3 k_x1 eo_4) cw_X6_45 hW hZ k_r_3 (by decide) rfl rfl rfl hl.1 (Nat.le_of_ble_eq_true rfl) rfl dX6_find_15 ⟨Nat.le_of_ble_eq_true rfl, Nat.le_of_ble_eq_true rfl⟩ ⟨Nat.le_refl _, Nat.le_refl _⟩) hZ (fun _ _ hW km hZ => ?_)
  replace hkm := hkm.tr km
  replace k_x0 := km.at k_x0 (by decide)
  replace k_x1 := km.at k_x1 (by decide)
  refine lv_aload_n C.1 C.2.1 dX6_find_18 rfl (lv_at hl 0 rfl) ?_
  obtain ⟨r_5, er_5, hE⟩ := cl_e hE
  refine gf_X6_12 C hW k_x0 er_5 dX6_find_19 (fun k_r_5 => ?_)
  obtain ⟨o_6, eo_6, hE⟩ := cl_e hE
  refine x_kV (o := o_6) (z_runV (As := []) (rest := []) C (ct_X3_strip l X F k_r_5 eo_6) cw_X6_49 hW hZ k_r_5 (by decide) rfl rfl rfl hl.1 (Nat.le_of_ble_eq_true rfl) rfl dX6_find_22 ⟨Nat.le_of_ble_eq_true rfl, Nat.le_of_ble_eq_true rfl⟩ ⟨Nat.le_refl _, Nat.le_refl _⟩) hZ (fun _ _ hW km hZ => ?_)
  replace hkm := hkm.tr km
  replace k_x0 := km.at k_x0 (by decide)
  replace k_x1 := km.at k_x1 (by decide)
  refine lv_aload_n C.1 C.2.1 dX6_find_25 rfl (lv_at hl 0 rfl) ?_
  obtain ⟨r_7, er_7, hE⟩ := cl_e hE
  refine gf_X6_12 C hW k_x0 er_7 dX6_find_26 (fun k_r_7 => ?_)
  refine lv_iconst (v := (1 : Int32)) C.1 C.2.1 dX6_find_29 (by decide) ?_
  refine lv_aload_n C.1 C.2.1 dX6_find_30 rfl (lv_at hl 1 rfl) ?_
  refine gf_X6_52 C hW k_x1 dX6_find_31 ?_
  refine lv_isub C.1 C.2.1 dX6_find_34 ?_
  obtain ⟨h_8, eh_8, hE⟩ := nm_e2 hE
  refine pf_X6_52 C hW hZ k_r_7 eh_8 dX6_find_35 (fun _ _ hW km hZ => ?_)
  replace hkm := hkm.tr km
  replace k_x0 := km.at k_x0 (by decide)
  replace k_x1 := km.at k_x1 (by decide)
  refine lv_aload_n C.1 C.2.1 dX6_find_38 rfl (lv_at hl 0 rfl) ?_
  obtain ⟨r_9, er_9, hE⟩ := cl_e hE
  refine gf_X6_33 C hW k_x0 er_9 dX6_find_39 (fun k_r_9 => ?_)
  refine lv_aload_n C.1 C.2.1 dX6_find_42 rfl (lv_at hl 0 rfl) ?_
  obtain ⟨r_10, er_10, hE⟩ := cl_e hE
  refine gf_X6_12 C hW k_x0 er_10 dX6_find_43 (fun k_r_10 => ?_)
  refine lv_aload_n C.1 C.2.1 dX6_find_46 rfl (lv_at hl 0 rfl) ?_
  obtain ⟨r_11, er_11, hE⟩ := cl_e hE
  refine gf_X6_12 C hW k_x0 er_11 dX6_find_47 (fun k_r_11 => ?_)
  refine gf_X6_52 C hW k_r_11 dX6_find_50 ?_
  obtain ⟨o_12, eo_12, hE⟩ := cl_e hE
  refine x_kI (o := o_12) (z_runV (As := [.ref r_10, .int (hI h_8 r_11 5)]) (rest := []) C (ct_X5_isRoyalHit l X F k_r_9 k_r_10 eo_12) cw_X6_55 hW hZ k_r_9 (by decide) rfl rfl rfl hl.1 (Nat.le_of_ble_eq_true rfl) rfl dX6_find_53 ⟨Nat.le_of_ble_eq_true rfl, Nat.le_of_ble_eq_true rfl⟩ ⟨Nat.le_refl _, Nat.le_refl _⟩) hZ (fun _ _ hW km hZ => ?_)
  replace hkm := hkm.tr km
  replace k_x0 := km.at k_x0 (by decide)
  replace k_x1 := km.at k_x1 (by decide)
  refine lv_if_ne (tgt := 88) C.1 C.2.1 dX6_find_56 (by decide) (fun c_13 => ?_) (fun c_13 => ?_)
  · have hE := br_n hE c_13
    exact bX6_find_88 C hkm hW hZ _ (lv_sub hl [] rfl) hE
  · have hE := br_p hE c_13
    refine lv_aload_n C.1 C.2.1 dX6_find_59 rfl (lv_at hl 0 rfl) ?_
    obtain ⟨r_14, er_14, hE⟩ := cl_e hE
    refine gf_X6_25 C hW k_x0 er_14 dX6_find_60 (fun k_r_14 => ?_)
    refine lv_iconst (v := (4 : Int32)) C.1 C.2.1 dX6_find_63 (by decide) ?_
    obtain ⟨o_15, eo_15, hE⟩ := cl_e hE
    refine x_kI (o := o_15) (z_runV (As := [.int (4 : Int32)]) (rest := []) C (ct_X1_has l X k_r_14 eo_15) cw_X6_61 hW hZ k_r_14 (by decide) rfl rfl rfl hl.1 (Nat.le_of_ble_eq_true rfl) rfl dX6_find_64 ⟨Nat.le_of_ble_eq_true rfl, Nat.le_of_ble_eq_true rfl⟩ ⟨Nat.le_refl _, Nat.le_refl _⟩) hZ (fun _ _ hW km hZ => ?_)
    replace hkm := hkm.tr km
    replace k_x0 := km.at k_x0 (by decide)
    replace k_x1 := km.at k_x1 (by decide)
    refine lv_if_eq (tgt := 90) C.1 C.2.1 dX6_find_67 (by decide) (fun c_16 => ?_) (fun c_16 => ?_)
    · have hE := br_p hE c_16
      exact bX6_find_90 C k_x0 hkm hW hZ _ (lv_sub hl [0] rfl) hE
    · have hE := br_n hE c_16
      refine lv_aload_n C.1 C.2.1 dX6_find_70 rfl (lv_at hl 0 rfl) ?_
      obtain ⟨r_17, er_17, hE⟩ := cl_e hE
      refine gf_X6_33 C hW k_x0 er_17 dX6_find_71 (fun k_r_17 => ?_)
      refine lv_aload_n C.1 C.2.1 dX6_find_74 rfl (lv_at hl 0 rfl) ?_
      obtain ⟨r_18, er_18, hE⟩ := cl_e hE
      refine gf_X6_12 C hW k_x0 er_18 dX6_find_75 (fun k_r_18 => ?_)
      refine lv_aload_n C.1 C.2.1 dX6_find_78 rfl (lv_at hl 1 rfl) ?_
      refine gf_X6_52 C hW k_x1 dX6_find_79 ?_
      obtain ⟨o_19, eo_19, hE⟩ := cl_e hE
      refine x_kI (o := o_19) (z_runV (As := [.ref r_18, .int (hI o_15.2 x1 5)]) (rest := []) C (ct_X5_isRoyalHit l X F k_r_17 k_r_18 eo_19) cw_X6_55 hW hZ k_r_17 (by decide) rfl rfl rfl hl.1 (Nat.le_of_ble_eq_true rfl) rfl dX6_find_82 ⟨Nat.le_of_ble_eq_true rfl, Nat.le_of_ble_eq_true rfl⟩ ⟨Nat.le_refl _, Nat.le_refl _⟩) hZ (fun _ _ hW km hZ => ?_)
      replace hkm := hkm.tr km
      replace k_x0 := km.at k_x0 (by decide)
      replace k_x1 := km.at k_x1 (by decide)
      refine lv_if_eq (tgt := 90) C.1 C.2.1 dX6_find_85 (by decide) (fun c_20 => ?_) (fun c_20 => ?_)
      · have hE := br_p hE c_20
        exact bX6_find_90 C k_x0 hkm hW hZ _ (lv_sub hl [0] rfl) hE
      · have hE := br_n hE c_20
        exact bX6_find_88 C hkm hW hZ _ (lv_sub hl [] rfl) hE
theorem dX6_fillIn_0 : decode cX6_fillIn 0 = .ok (.iload_n 2, 1) := by decide +kernel
theorem dX6_fillIn_1 : decode cX6_fillIn 1 = .ok (.ifCond .lt 22, 3) := by decide +kernel
theorem dX6_fillIn_4 : decode cX6_fillIn 4 = .ok (.iload_n 2, 1) := by decide +kernel
theorem dX6_fillIn_5 : decode cX6_fillIn 5 = .ok (.aload_n 0, 1) := by decide +kernel
theorem dX6_fillIn_6 : decode cX6_fillIn 6 = .ok (.getfield 37, 3) := by decide +kernel
theorem dX6_fillIn_9 : decode cX6_fillIn 9 = .ok (.if_icmp .ge 14, 3) := by decide +kernel
theorem dX6_fillIn_12 : decode cX6_fillIn 12 = .ok (.aload_n 0, 1) := by decide +kernel
theorem dX6_fillIn_13 : decode cX6_fillIn 13 = .ok (.aload_n 1, 1) := by decide +kernel
theorem dX6_fillIn_14 : decode cX6_fillIn 14 = .ok (.aload_n 0, 1) := by decide +kernel
theorem dX6_fillIn_15 : decode cX6_fillIn 15 = .ok (.getfield 21, 3) := by decide +kernel
theorem dX6_fillIn_18 : decode cX6_fillIn 18 = .ok (.iload_n 2, 1) := by decide +kernel
theorem dX6_fillIn_19 : decode cX6_fillIn 19 = .ok (.iaload, 1) := by decide +kernel
theorem dX6_fillIn_20 : decode cX6_fillIn 20 = .ok (.invokevirtual 106, 3) := by decide +kernel
theorem dX6_fillIn_23 : decode cX6_fillIn 23 = .ok (.return_, 1) := by decide +kernel
set_option maxRecDepth 20000 in
theorem moX6_fillIn_23 {o : Hp} {F : Nat} {h : Hp} (hE : sX6_fillIn_23 F h  = some o) : Le h o := by
  exact le_some1 hE
set_option maxRecDepth 20000 in
theorem moX6_fillIn {o : Hp} {F : Nat} {h : Hp} {x0 : Nat} {x1 : Nat} {x2 : Int32} (hE : sX6_fillIn F h x0 x1 x2 = some o) : Le h o := by
  rcases br_e hE with ⟨_, hE⟩ | ⟨_, hE⟩
  · exact moX6_fillIn_23 hE
  · rcases br_e hE with ⟨_, hE⟩ | ⟨_, hE⟩
    · exact moX6_fillIn_23 hE
    · obtain ⟨r_3, er_3, hE⟩ := cl_e hE
      obtain ⟨g_4, hE⟩ := gd_e hE
      obtain ⟨o_5, eo_5, hE⟩ := cl_e hE
      refine (moX6_lay eo_5).tr ?_
      exact moX6_fillIn_23 hE
set_option maxRecDepth 20000 in
theorem bX6_fillIn_23 {p : Program} {l : Launch} {e : Env} {s : State} {m : MethodId} {args : Array Value} {below : List Frame} {meth : Method} {c : Code} {X : Ec} {h0 : Hp} {o : Hp} {F : Nat} (C : Cx X p s m args meth c RX6 cX6_fillIn 3 none "fillIn") {h : Hp} {H : Heap} {locs : List Loc} (hkm : Km h0 h) (hW : Wx X h H) (hZ : va_S (aA (eB X)) s.heap H locs) (ls : Array Slot) (hl : lv_has ls 3 []) (hE : sX6_fillIn_23 F h  = some o) : W p l e (rm 3 108) s m args below meth c H locs 0 0 (MQ below (QV X h0 o) args s 0 0 (aA (eB X))) (F0 m 23 ls []) := by
  exact x_vret C rfl hW hZ hkm hE dX6_fillIn_23
set_option maxRecDepth 20000 in
theorem ct_X6_fillIn (l : Launch) (X : Ec) (F : Nat) {h : Hp} {x0 : Nat} {x1 : Nat} {x2 : Int32} {o : Hp} (k_x0 : hK h x0 = 6) (k_x1 : hK h x1 = 3) (hE : sX6_fillIn F h x0 x1 x2 = some o) : MetV l yX6_fillIn cX6_fillIn 3 none 3 108 X [.ref x0, .ref x1, .int x2] h o := by
  refine x_met (by decide) (Nat.le_of_ble_eq_true rfl) ?_
  intro p e s m below meth c ls C hl hW hZ
  have hl : lv_has ls 3 [(0, .ref x0), (1, .ref x1), (2, .int x2)] := hl
  have hkm : Km h h := Km.rf h
  refine lv_iload_n C.1 C.2.1 dX6_fillIn_0 rfl (lv_at hl 2 rfl) ?_
  refine lv_if_lt (tgt := 23) C.1 C.2.1 dX6_fillIn_1 (by decide) (fun c_1 => ?_) (fun c_1 => ?_)
  · have hE := br_p hE c_1
    exact bX6_fillIn_23 C hkm hW hZ _ (lv_sub hl [] rfl) hE
  · have hE := br_n hE c_1
    refine lv_iload_n C.1 C.2.1 dX6_fillIn_4 rfl (lv_at hl 2 rfl) ?_
    refine lv_aload_n C.1 C.2.1 dX6_fillIn_5 rfl (lv_at hl 0 rfl) ?_
    refine gf_X6_37 C hW k_x0 dX6_fillIn_6 ?_
    refine lv_icmp_ge (tgt := 23) C.1 C.2.1 dX6_fillIn_9 (by decide) (fun c_2 => ?_) (fun c_2 => ?_)
    · have hE := br_p hE c_2
      exact bX6_fillIn_23 C hkm hW hZ _ (lv_sub hl [] rfl) hE
    · have hE := br_n hE c_2
      refine lv_aload_n C.1 C.2.1 dX6_fillIn_12 rfl (lv_at hl 0 rfl) ?_
      refine lv_aload_n C.1 C.2.1 dX6_fillIn_13 rfl (lv_at hl 1 rfl) ?_
      refine lv_aload_n C.1 C.2.1 dX6_fillIn_14 rfl (lv_at hl 0 rfl) ?_
      obtain ⟨r_3, er_3, hE⟩ := cl_e hE
      refine gf_X6_21 C hW k_x0 er_3 dX6_fillIn_15 (fun k_r_3 => ?_)
      refine lv_iload_n C.1 C.2.1 dX6_fillIn_18 rfl (lv_at hl 2 rfl) ?_
      obtain ⟨g_4, hE⟩ := gd_e hE
      refine y_iald C hW k_r_3 g_4 dX6_fillIn_19 ?_
      obtain ⟨o_5, eo_5, hE⟩ := cl_e hE
      refine x_kV (o := o_5) (z_runV (As := [.ref x1, .int (hI h r_3 x2.toNatClampNeg)]) (rest := []) C (ct_X6_lay l X F k_x0 k_x1 eo_5) cw_X6_106 hW hZ k_x0 (by decide) rfl rfl rfl hl.1 (Nat.le_of_ble_eq_true rfl) rfl dX6_fillIn_20 ⟨Nat.le_of_ble_eq_true rfl, Nat.le_of_ble_eq_true rfl⟩ ⟨Nat.le_refl _, Nat.le_refl _⟩) hZ (fun _ _ hW km hZ => ?_)
      replace hkm := hkm.tr km
      replace k_x0 := km.at k_x0 (by decide)
      replace k_x1 := km.at k_x1 (by decide)
      exact bX6_fillIn_23 C hkm hW hZ _ (lv_sub hl [] rfl) hE
