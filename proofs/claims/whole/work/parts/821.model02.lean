set_option maxRecDepth 100000 in
theorem n_1825 : Cond.fieldLinkNest RX15 221 (TX14 10).1 (TX14 10).2.1 (TX14 10).2.2.1 "GameRulesModel" ∈ tables_1 := List.mem_of_getElem? (i := 1825) rfl
set_option maxRecDepth 100000 in
theorem n_1827 : Cond.fieldLinkNest RX15 225 (TX14 11).1 (TX14 11).2.1 (TX14 11).2.2.1 "GameRulesModel" ∈ tables_1 := List.mem_of_getElem? (i := 1827) rfl
set_option maxRecDepth 100000 in
theorem n_1831 : Cond.fieldLinkNest RX15 223 (TX14 13).1 (TX14 13).2.1 (TX14 13).2.2.1 "GameRulesModel" ∈ tables_1 := List.mem_of_getElem? (i := 1831) rfl
set_option maxRecDepth 100000 in
theorem n_1833 : Cond.fieldLinkNest RX15 215 (TX14 14).1 (TX14 14).2.1 (TX14 14).2.2.1 "GameRulesModel" ∈ tables_1 := List.mem_of_getElem? (i := 1833) rfl
set_option maxRecDepth 100000 in
theorem m_2059 : Cond.methodLink RX15 218 yX14_isBecome ∈ W0 := w0_in (List.mem_append_right _ (List.mem_of_getElem? (i := 2059) rfl)) rfl
set_option maxRecDepth 100000 in
theorem m_2060 : Cond.instanceMethod yX14_isBecome ∈ W0 := w0_in (List.mem_append_right _ (List.mem_of_getElem? (i := 2060) rfl)) rfl
set_option maxRecDepth 100000 in
theorem m_2061 : Cond.selects RX14 yX14_isBecome yX14_isBecome ∈ W0 := w0_in (List.mem_append_right _ (List.mem_of_getElem? (i := 2061) rfl)) rfl
set_option maxRecDepth 100000 in
theorem m_2062 : Cond.code yX14_isBecome cX14_isBecome 5 (some .boolean) ∈ W0 := w0_in (List.mem_append_right _ (List.mem_of_getElem? (i := 2062) rfl)) rfl
section
variable {p : Program} {l : Launch} {e : Env} {R : Room} {s : State} {m : MethodId} {args : Array Value} {below : List Frame} {meth : Method} {c : Code} {H : Heap} {locs : List Loc} {cells slots : Nat} {Q : State → Prop}
variable {cc : ByteArray} {pc : Nat} {ls : Array Slot} {rest : List Value} {X : Ec} {h h1 : Hp} {nL : Nat} {rt : Option FieldType} {mn : String}
theorem gf_X15_223 {a r : Nat} (C : Cx X p s m args meth c RX15 cc nL rt mn) (hW : Wx X h H) (ha : hK h a = 14) (hr : hR h a 13 = some r) (hdg : decode cc pc = .ok (.getfield 223, 3)) (kk : hK h r = 17 → W p l e R s m args below meth c H locs cells slots Q (F0 m (pc + 3) ls (.ref r :: rest))) : W p l e R s m args below meth c H locs cells slots Q (F0 m pc ls (.ref a :: rest)) :=
  y_getrN C hW ha i_X14 (by decide) rfl (by decide) n_1831 rfl rfl hr hdg kk
theorem gf_X15_221 {a : Nat} (C : Cx X p s m args meth c RX15 cc nL rt mn) (hW : Wx X h H) (ha : hK h a = 14) (hdg : decode cc pc = .ok (.getfield 221, 3)) (kk : W p l e R s m args below meth c H locs cells slots Q (F0 m (pc + 3) ls (.int (hI h a 10) :: rest))) : W p l e R s m args below meth c H locs cells slots Q (F0 m pc ls (.ref a :: rest)) :=
  y_getiN C hW ha i_X14 (by decide) rfl (by decide) n_1825 rfl hdg kk
theorem gf_X15_215 {a r : Nat} (C : Cx X p s m args meth c RX15 cc nL rt mn) (hW : Wx X h H) (ha : hK h a = 14) (hr : hR h a 14 = some r) (hdg : decode cc pc = .ok (.getfield 215, 3)) (kk : hK h r = 17 → W p l e R s m args below meth c H locs cells slots Q (F0 m (pc + 3) ls (.ref r :: rest))) : W p l e R s m args below meth c H locs cells slots Q (F0 m pc ls (.ref a :: rest)) :=
  y_getrN C hW ha i_X14 (by decide) rfl (by decide) n_1833 rfl rfl hr hdg kk
theorem pf_X15_225 {a : Nat} {v : Int32} (C : Cx X p s m args meth c RX15 cc nL rt mn) (hW : Wx X h H) (hZ : va_S (aA (eB X)) s.heap H locs) (ha : hK h a = 14) (eh : h1 = wI h a 11 v) (hdg : decode cc pc = .ok (.putfield 225, 3)) (kk : ∀ (H1 : Heap) (locs1 : List Loc), Wx X h1 H1 → Km h h1 → va_S (aA (eB X)) s.heap H1 locs1 → W p l e R s m args below meth c H1 locs1 cells slots Q (F0 m (pc + 3) ls rest)) : W p l e R s m args below meth c H locs cells slots Q (F0 m pc ls (.int v :: .ref a :: rest)) :=
  y_putiN (ty := .int) C hW hZ ha i_X14 tyX14 tyX14_ok nmX14 (by decide) rfl rfl (by decide) n_1827 rfl (by decide +kernel) rfl rfl rfl eh hdg kk
theorem gf_X15_225 {a : Nat} (C : Cx X p s m args meth c RX15 cc nL rt mn) (hW : Wx X h H) (ha : hK h a = 14) (hdg : decode cc pc = .ok (.getfield 225, 3)) (kk : W p l e R s m args below meth c H locs cells slots Q (F0 m (pc + 3) ls (.int (hI h a 11) :: rest))) : W p l e R s m args below meth c H locs cells slots Q (F0 m pc ls (.ref a :: rest)) :=
  y_getiN C hW ha i_X14 (by decide) rfl (by decide) n_1827 rfl hdg kk
end
theorem cw_X15_218 : cwd RX15 218 yX14_isBecome cX14_isBecome 5 (some .boolean) false 1 := ⟨m_2062, m_2059, m_20, ⟨m_2060, m_2061⟩, by decide, by decide, by decide +kernel⟩
theorem dX15_isBecoming_0 : decode cX15_isBecoming 0 = .ok (.aload_n 0, 1) := by decide +kernel
theorem dX15_isBecoming_1 : decode cX15_isBecoming 1 = .ok (.aload_n 1, 1) := by decide +kernel
theorem dX15_isBecoming_2 : decode cX15_isBecoming 2 = .ok (.iload_n 2, 1) := by decide +kernel
theorem dX15_isBecoming_3 : decode cX15_isBecoming 3 = .ok (.invokevirtual 74, 3) := by decide +kernel
theorem dX15_isBecoming_6 : decode cX15_isBecoming 6 = .ok (.aload_n 0, 1) := by decide +kernel
theorem dX15_isBecoming_7 : decode cX15_isBecoming 7 = .ok (.aload_n 1, 1) := by decide +kernel
theorem dX15_isBecoming_8 : decode cX15_isBecoming 8 = .ok (.invokevirtual 165, 3) := by decide +kernel
theorem dX15_isBecoming_11 : decode cX15_isBecoming 11 = .ok (.istore_n 3, 1) := by decide +kernel
theorem dX15_isBecoming_12 : decode cX15_isBecoming 12 = .ok (.iload_n 3, 1) := by decide +kernel
theorem dX15_isBecoming_13 : decode cX15_isBecoming 13 = .ok (.iconst (-1), 1) := by decide +kernel
theorem dX15_isBecoming_14 : decode cX15_isBecoming 14 = .ok (.if_icmp .eq 37, 3) := by decide +kernel
theorem dX15_isBecoming_17 : decode cX15_isBecoming 17 = .ok (.iload_n 3, 1) := by decide +kernel
theorem dX15_isBecoming_18 : decode cX15_isBecoming 18 = .ok (.aload_n 0, 1) := by decide +kernel
theorem dX15_isBecoming_19 : decode cX15_isBecoming 19 = .ok (.getfield 57, 3) := by decide +kernel
theorem dX15_isBecoming_22 : decode cX15_isBecoming 22 = .ok (.getfield 221, 3) := by decide +kernel
theorem dX15_isBecoming_25 : decode cX15_isBecoming 25 = .ok (.if_icmp .eq 26, 3) := by decide +kernel
theorem dX15_isBecoming_28 : decode cX15_isBecoming 28 = .ok (.aload_n 0, 1) := by decide +kernel
theorem dX15_isBecoming_29 : decode cX15_isBecoming 29 = .ok (.getfield 57, 3) := by decide +kernel
theorem dX15_isBecoming_32 : decode cX15_isBecoming 32 = .ok (.getfield 215, 3) := by decide +kernel
theorem dX15_isBecoming_35 : decode cX15_isBecoming 35 = .ok (.iload_n 3, 1) := by decide +kernel
theorem dX15_isBecoming_36 : decode cX15_isBecoming 36 = .ok (.iaload, 1) := by decide +kernel
theorem dX15_isBecoming_37 : decode cX15_isBecoming 37 = .ok (.ifCond .gt 14, 3) := by decide +kernel
theorem dX15_isBecoming_40 : decode cX15_isBecoming 40 = .ok (.aload_n 0, 1) := by decide +kernel
theorem dX15_isBecoming_41 : decode cX15_isBecoming 41 = .ok (.getfield 57, 3) := by decide +kernel
theorem dX15_isBecoming_44 : decode cX15_isBecoming 44 = .ok (.iload_n 3, 1) := by decide +kernel
theorem dX15_isBecoming_45 : decode cX15_isBecoming 45 = .ok (.invokevirtual 218, 3) := by decide +kernel
theorem dX15_isBecoming_48 : decode cX15_isBecoming 48 = .ok (.ifCond .eq 5, 3) := by decide +kernel
theorem dX15_isBecoming_51 : decode cX15_isBecoming 51 = .ok (.iconst 0, 1) := by decide +kernel
theorem dX15_isBecoming_52 : decode cX15_isBecoming 52 = .ok (.ireturn, 1) := by decide +kernel
theorem dX15_isBecoming_53 : decode cX15_isBecoming 53 = .ok (.aload_n 0, 1) := by decide +kernel
theorem dX15_isBecoming_54 : decode cX15_isBecoming 54 = .ok (.aload_n 1, 1) := by decide +kernel
theorem dX15_isBecoming_55 : decode cX15_isBecoming 55 = .ok (.iload_n 2, 1) := by decide +kernel
theorem dX15_isBecoming_56 : decode cX15_isBecoming 56 = .ok (.invokevirtual 74, 3) := by decide +kernel
theorem dX15_isBecoming_59 : decode cX15_isBecoming 59 = .ok (.iconst 0, 1) := by decide +kernel
theorem dX15_isBecoming_60 : decode cX15_isBecoming 60 = .ok (.istore 4, 2) := by decide +kernel
theorem dX15_isBecoming_62 : decode cX15_isBecoming 62 = .ok (.iload 4, 2) := by decide +kernel
theorem dX15_isBecoming_64 : decode cX15_isBecoming 64 = .ok (.ifCond .eq 13, 3) := by decide +kernel
theorem dX15_isBecoming_67 : decode cX15_isBecoming 67 = .ok (.aload_n 0, 1) := by decide +kernel
theorem dX15_isBecoming_68 : decode cX15_isBecoming 68 = .ok (.aload_n 1, 1) := by decide +kernel
theorem dX15_isBecoming_69 : decode cX15_isBecoming 69 = .ok (.bipush 59, 2) := by decide +kernel
theorem dX15_isBecoming_71 : decode cX15_isBecoming 71 = .ok (.invokevirtual 94, 3) := by decide +kernel
theorem dX15_isBecoming_74 : decode cX15_isBecoming 74 = .ok (.ifCond .ne 143, 3) := by decide +kernel
theorem dX15_isBecoming_77 : decode cX15_isBecoming 77 = .ok (.aload_n 0, 1) := by decide +kernel
theorem dX15_isBecoming_78 : decode cX15_isBecoming 78 = .ok (.aload_n 1, 1) := by decide +kernel
theorem dX15_isBecoming_79 : decode cX15_isBecoming 79 = .ok (.invokevirtual 165, 3) := by decide +kernel
theorem dX15_isBecoming_82 : decode cX15_isBecoming 82 = .ok (.istore 5, 2) := by decide +kernel
theorem dX15_isBecoming_84 : decode cX15_isBecoming 84 = .ok (.iload 5, 2) := by decide +kernel
theorem dX15_isBecoming_86 : decode cX15_isBecoming 86 = .ok (.iconst (-1), 1) := by decide +kernel
theorem dX15_isBecoming_87 : decode cX15_isBecoming 87 = .ok (.if_icmp .eq 45, 3) := by decide +kernel
theorem dX15_isBecoming_90 : decode cX15_isBecoming 90 = .ok (.iload 5, 2) := by decide +kernel
theorem dX15_isBecoming_92 : decode cX15_isBecoming 92 = .ok (.iload_n 3, 1) := by decide +kernel
theorem dX15_isBecoming_93 : decode cX15_isBecoming 93 = .ok (.if_icmp .eq 39, 3) := by decide +kernel
theorem dX15_isBecoming_96 : decode cX15_isBecoming 96 = .ok (.iload 5, 2) := by decide +kernel
theorem dX15_isBecoming_98 : decode cX15_isBecoming 98 = .ok (.aload_n 0, 1) := by decide +kernel
theorem dX15_isBecoming_99 : decode cX15_isBecoming 99 = .ok (.getfield 57, 3) := by decide +kernel
theorem dX15_isBecoming_102 : decode cX15_isBecoming 102 = .ok (.getfield 221, 3) := by decide +kernel
theorem dX15_isBecoming_105 : decode cX15_isBecoming 105 = .ok (.if_icmp .eq 27, 3) := by decide +kernel
theorem dX15_isBecoming_108 : decode cX15_isBecoming 108 = .ok (.aload_n 0, 1) := by decide +kernel
theorem dX15_isBecoming_109 : decode cX15_isBecoming 109 = .ok (.getfield 57, 3) := by decide +kernel
theorem dX15_isBecoming_112 : decode cX15_isBecoming 112 = .ok (.getfield 215, 3) := by decide +kernel
theorem dX15_isBecoming_115 : decode cX15_isBecoming 115 = .ok (.iload 5, 2) := by decide +kernel
theorem dX15_isBecoming_117 : decode cX15_isBecoming 117 = .ok (.iaload, 1) := by decide +kernel
theorem dX15_isBecoming_118 : decode cX15_isBecoming 118 = .ok (.ifCond .ne 14, 3) := by decide +kernel
theorem dX15_isBecoming_121 : decode cX15_isBecoming 121 = .ok (.iload 4, 2) := by decide +kernel
theorem dX15_isBecoming_123 : decode cX15_isBecoming 123 = .ok (.bipush 6, 2) := by decide +kernel
theorem dX15_isBecoming_125 : decode cX15_isBecoming 125 = .ok (.if_icmp .ge 7, 3) := by decide +kernel
theorem dX15_isBecoming_128 : decode cX15_isBecoming 128 = .ok (.iconst 1, 1) := by decide +kernel
theorem dX15_isBecoming_129 : decode cX15_isBecoming 129 = .ok (.goto 4, 3) := by decide +kernel
theorem dX15_isBecoming_132 : decode cX15_isBecoming 132 = .ok (.iconst 0, 1) := by decide +kernel
theorem dX15_isBecoming_133 : decode cX15_isBecoming 133 = .ok (.istore 6, 2) := by decide +kernel
theorem dX15_isBecoming_135 : decode cX15_isBecoming 135 = .ok (.iconst 0, 1) := by decide +kernel
theorem dX15_isBecoming_136 : decode cX15_isBecoming 136 = .ok (.istore 7, 2) := by decide +kernel
theorem dX15_isBecoming_138 : decode cX15_isBecoming 138 = .ok (.iload 7, 2) := by decide +kernel
theorem dX15_isBecoming_140 : decode cX15_isBecoming 140 = .ok (.iload 4, 2) := by decide +kernel
theorem dX15_isBecoming_142 : decode cX15_isBecoming 142 = .ok (.if_icmp .ge 39, 3) := by decide +kernel
theorem dX15_isBecoming_145 : decode cX15_isBecoming 145 = .ok (.iload 6, 2) := by decide +kernel
theorem dX15_isBecoming_147 : decode cX15_isBecoming 147 = .ok (.aload_n 0, 1) := by decide +kernel
theorem dX15_isBecoming_148 : decode cX15_isBecoming 148 = .ok (.getfield 57, 3) := by decide +kernel
theorem dX15_isBecoming_151 : decode cX15_isBecoming 151 = .ok (.getfield 223, 3) := by decide +kernel
theorem dX15_isBecoming_154 : decode cX15_isBecoming 154 = .ok (.bipush 6, 2) := by decide +kernel
theorem dX15_isBecoming_156 : decode cX15_isBecoming 156 = .ok (.iload_n 3, 1) := by decide +kernel
theorem dX15_isBecoming_157 : decode cX15_isBecoming 157 = .ok (.imul, 1) := by decide +kernel
theorem dX15_isBecoming_158 : decode cX15_isBecoming 158 = .ok (.iload 7, 2) := by decide +kernel
theorem dX15_isBecoming_160 : decode cX15_isBecoming 160 = .ok (.iadd, 1) := by decide +kernel
theorem dX15_isBecoming_161 : decode cX15_isBecoming 161 = .ok (.iaload, 1) := by decide +kernel
theorem dX15_isBecoming_162 : decode cX15_isBecoming 162 = .ok (.iload 5, 2) := by decide +kernel
theorem dX15_isBecoming_164 : decode cX15_isBecoming 164 = .ok (.if_icmp .eq 7, 3) := by decide +kernel
theorem dX15_isBecoming_167 : decode cX15_isBecoming 167 = .ok (.iconst 1, 1) := by decide +kernel
theorem dX15_isBecoming_168 : decode cX15_isBecoming 168 = .ok (.goto 4, 3) := by decide +kernel
theorem dX15_isBecoming_171 : decode cX15_isBecoming 171 = .ok (.iconst 0, 1) := by decide +kernel
theorem dX15_isBecoming_172 : decode cX15_isBecoming 172 = .ok (.iand, 1) := by decide +kernel
theorem dX15_isBecoming_173 : decode cX15_isBecoming 173 = .ok (.istore 6, 2) := by decide +kernel
theorem dX15_isBecoming_175 : decode cX15_isBecoming 175 = .ok (.iinc 7 1, 3) := by decide +kernel
theorem dX15_isBecoming_178 : decode cX15_isBecoming 178 = .ok (.goto (-40), 3) := by decide +kernel
theorem dX15_isBecoming_181 : decode cX15_isBecoming 181 = .ok (.iload 6, 2) := by decide +kernel
theorem dX15_isBecoming_183 : decode cX15_isBecoming 183 = .ok (.ifCond .ne 5, 3) := by decide +kernel
theorem dX15_isBecoming_186 : decode cX15_isBecoming 186 = .ok (.iconst 0, 1) := by decide +kernel
theorem dX15_isBecoming_187 : decode cX15_isBecoming 187 = .ok (.ireturn, 1) := by decide +kernel
theorem dX15_isBecoming_188 : decode cX15_isBecoming 188 = .ok (.aload_n 0, 1) := by decide +kernel
theorem dX15_isBecoming_189 : decode cX15_isBecoming 189 = .ok (.getfield 57, 3) := by decide +kernel
theorem dX15_isBecoming_192 : decode cX15_isBecoming 192 = .ok (.getfield 223, 3) := by decide +kernel
theorem dX15_isBecoming_195 : decode cX15_isBecoming 195 = .ok (.bipush 6, 2) := by decide +kernel
theorem dX15_isBecoming_197 : decode cX15_isBecoming 197 = .ok (.iload_n 3, 1) := by decide +kernel
theorem dX15_isBecoming_198 : decode cX15_isBecoming 198 = .ok (.imul, 1) := by decide +kernel
theorem dX15_isBecoming_199 : decode cX15_isBecoming 199 = .ok (.iload 4, 2) := by decide +kernel
theorem dX15_isBecoming_201 : decode cX15_isBecoming 201 = .ok (.iadd, 1) := by decide +kernel
theorem dX15_isBecoming_202 : decode cX15_isBecoming 202 = .ok (.iload 5, 2) := by decide +kernel
theorem dX15_isBecoming_204 : decode cX15_isBecoming 204 = .ok (.iastore, 1) := by decide +kernel
theorem dX15_isBecoming_205 : decode cX15_isBecoming 205 = .ok (.iinc 4 1, 3) := by decide +kernel
theorem dX15_isBecoming_208 : decode cX15_isBecoming 208 = .ok (.aload_n 0, 1) := by decide +kernel
theorem dX15_isBecoming_209 : decode cX15_isBecoming 209 = .ok (.aload_n 1, 1) := by decide +kernel
theorem dX15_isBecoming_210 : decode cX15_isBecoming 210 = .ok (.iload_n 2, 1) := by decide +kernel
theorem dX15_isBecoming_211 : decode cX15_isBecoming 211 = .ok (.invokevirtual 74, 3) := by decide +kernel
theorem dX15_isBecoming_214 : decode cX15_isBecoming 214 = .ok (.goto (-152), 3) := by decide +kernel
theorem dX15_isBecoming_217 : decode cX15_isBecoming 217 = .ok (.aload_n 0, 1) := by decide +kernel
theorem dX15_isBecoming_218 : decode cX15_isBecoming 218 = .ok (.getfield 57, 3) := by decide +kernel
theorem dX15_isBecoming_221 : decode cX15_isBecoming 221 = .ok (.getfield 215, 3) := by decide +kernel
theorem dX15_isBecoming_224 : decode cX15_isBecoming 224 = .ok (.iload_n 3, 1) := by decide +kernel
theorem dX15_isBecoming_225 : decode cX15_isBecoming 225 = .ok (.iload 4, 2) := by decide +kernel
theorem dX15_isBecoming_227 : decode cX15_isBecoming 227 = .ok (.iastore, 1) := by decide +kernel
theorem dX15_isBecoming_228 : decode cX15_isBecoming 228 = .ok (.aload_n 0, 1) := by decide +kernel
theorem dX15_isBecoming_229 : decode cX15_isBecoming 229 = .ok (.getfield 57, 3) := by decide +kernel
theorem dX15_isBecoming_232 : decode cX15_isBecoming 232 = .ok (.aload_n 0, 1) := by decide +kernel
theorem dX15_isBecoming_233 : decode cX15_isBecoming 233 = .ok (.getfield 57, 3) := by decide +kernel
theorem dX15_isBecoming_236 : decode cX15_isBecoming 236 = .ok (.getfield 225, 3) := by decide +kernel
theorem dX15_isBecoming_239 : decode cX15_isBecoming 239 = .ok (.iconst (-1), 1) := by decide +kernel
theorem dX15_isBecoming_240 : decode cX15_isBecoming 240 = .ok (.if_icmp .ne 7, 3) := by decide +kernel
theorem dX15_isBecoming_243 : decode cX15_isBecoming 243 = .ok (.iload_n 3, 1) := by decide +kernel
theorem dX15_isBecoming_244 : decode cX15_isBecoming 244 = .ok (.goto 10, 3) := by decide +kernel
theorem dX15_isBecoming_247 : decode cX15_isBecoming 247 = .ok (.aload_n 0, 1) := by decide +kernel
theorem dX15_isBecoming_248 : decode cX15_isBecoming 248 = .ok (.getfield 57, 3) := by decide +kernel
theorem dX15_isBecoming_251 : decode cX15_isBecoming 251 = .ok (.getfield 225, 3) := by decide +kernel
theorem dX15_isBecoming_254 : decode cX15_isBecoming 254 = .ok (.putfield 225, 3) := by decide +kernel
theorem dX15_isBecoming_257 : decode cX15_isBecoming 257 = .ok (.iconst 1, 1) := by decide +kernel
theorem dX15_isBecoming_258 : decode cX15_isBecoming 258 = .ok (.ireturn, 1) := by decide +kernel
set_option maxRecDepth 20000 in
theorem moX15_isBecoming_51 {o : Int32 × Hp} {F : Nat} {h : Hp} (hE : sX15_isBecoming_51 F h  = some o) : Le h o.2 := by
  exact le_some2 hE
set_option maxRecDepth 20000 in
theorem moX15_isBecoming_172 {o : Int32 × Hp} {k_62 : Hp → Nat → Nat → Int32 → Int32 → Int32 → Option (Int32 × Hp)} {k_138 : Hp → Nat → Nat → Int32 → Int32 → Int32 → Int32 → Int32 → Int32 → Option (Int32 × Hp)} {F : Nat} (mk_62 : ∀ (h : Hp) (x0 : Nat) (x1 : Nat) (x2 : Int32) (x3 : Int32) (x4 : Int32), k_62 h x0 x1 x2 x3 x4 = some o → Le h o.2) (mk_138 : ∀ (h : Hp) (x0 : Nat) (x1 : Nat) (x2 : Int32) (x3 : Int32) (x4 : Int32) (x5 : Int32) (x6 : Int32) (x7 : Int32), k_138 h x0 x1 x2 x3 x4 x5 x6 x7 = some o → Le h o.2) {h : Hp} {x0 : Nat} {x1 : Nat} {x2 : Int32} {x3 : Int32} {x4 : Int32} {x5 : Int32} {x7 : Int32} {t0 : Int32} {t1 : Int32} (hE : sX15_isBecoming_172 F k_62 k_138 h x0 x1 x2 x3 x4 x5 x7 t0 t1 = some o) : Le h o.2 := by
  obtain ⟨v_1, ev_1, hE⟩ := nm_e2 hE
  obtain ⟨v_2, ev_2, hE⟩ := nm_e2 hE
  exact mk_138 _ _ _ _ _ _ _ _ _ hE
set_option maxRecDepth 20000 in
theorem moX15_isBecoming_138 {o : Int32 × Hp} {k_62 : Hp → Nat → Nat → Int32 → Int32 → Int32 → Option (Int32 × Hp)} {F : Nat} (mk_62 : ∀ (h : Hp) (x0 : Nat) (x1 : Nat) (x2 : Int32) (x3 : Int32) (x4 : Int32), k_62 h x0 x1 x2 x3 x4 = some o → Le h o.2) : ∀ (f : Nat) {h : Hp} {x0 : Nat} {x1 : Nat} {x2 : Int32} {x3 : Int32} {x4 : Int32} {x5 : Int32} {x6 : Int32} {x7 : Int32}, sX15_isBecoming_138 F k_62 f h x0 x1 x2 x3 x4 x5 x6 x7 = some o → Le h o.2 := by
  intro f
  induction f with
  | zero =>
    intro h x0 x1 x2 x3 x4 x5 x6 x7 hE
    rw [sX15_isBecoming_138] at hE
    cases hE
  | succ f ih =>
    intro h x0 x1 x2 x3 x4 x5 x6 x7 hE
    rw [sX15_isBecoming_138] at hE
    have mk_138 : ∀ (h : Hp) (x0 : Nat) (x1 : Nat) (x2 : Int32) (x3 : Int32) (x4 : Int32) (x5 : Int32) (x6 : Int32) (x7 : Int32), sX15_isBecoming_138 F k_62 f h x0 x1 x2 x3 x4 x5 x6 x7 = some o → Le h o.2 := fun h x0 x1 x2 x3 x4 x5 x6 x7 hE => ih hE
    rcases br_e hE with ⟨_, hE⟩ | ⟨_, hE⟩
    · rcases br_e hE with ⟨_, hE⟩ | ⟨_, hE⟩
      · exact le_some2 hE
      · obtain ⟨r_3, er_3, hE⟩ := cl_e hE
        obtain ⟨r_4, er_4, hE⟩ := cl_e hE
        obtain ⟨g_5, hE⟩ := gd_e hE
        obtain ⟨h_6, eh_6, hE⟩ := nm_e2 hE
        refine (le_I eh_6).tr ?_
        obtain ⟨v_7, ev_7, hE⟩ := nm_e2 hE
        obtain ⟨o_8, eo_8, hE⟩ := cl_e hE
        refine (moX15_nextToken eo_8).tr ?_
        exact mk_62 _ _ _ _ _ _ hE
    · obtain ⟨r_9, er_9, hE⟩ := cl_e hE
      obtain ⟨r_10, er_10, hE⟩ := cl_e hE
      obtain ⟨g_11, hE⟩ := gd_e hE
      rcases br_e hE with ⟨_, hE⟩ | ⟨_, hE⟩
      · exact moX15_isBecoming_172 mk_62 mk_138 hE
      · exact moX15_isBecoming_172 mk_62 mk_138 hE
set_option maxRecDepth 20000 in
theorem moX15_isBecoming_133 {o : Int32 × Hp} {k_62 : Hp → Nat → Nat → Int32 → Int32 → Int32 → Option (Int32 × Hp)} {F : Nat} (mk_62 : ∀ (h : Hp) (x0 : Nat) (x1 : Nat) (x2 : Int32) (x3 : Int32) (x4 : Int32), k_62 h x0 x1 x2 x3 x4 = some o → Le h o.2) {h : Hp} {x0 : Nat} {x1 : Nat} {x2 : Int32} {x3 : Int32} {x4 : Int32} {x5 : Int32} {t0 : Int32} (hE : sX15_isBecoming_133 F k_62 h x0 x1 x2 x3 x4 x5 t0 = some o) : Le h o.2 := by
  exact moX15_isBecoming_138 mk_62 _ hE
set_option maxRecDepth 20000 in
theorem moX15_isBecoming_132 {o : Int32 × Hp} {k_62 : Hp → Nat → Nat → Int32 → Int32 → Int32 → Option (Int32 × Hp)} {F : Nat} (mk_62 : ∀ (h : Hp) (x0 : Nat) (x1 : Nat) (x2 : Int32) (x3 : Int32) (x4 : Int32), k_62 h x0 x1 x2 x3 x4 = some o → Le h o.2) {h : Hp} {x0 : Nat} {x1 : Nat} {x2 : Int32} {x3 : Int32} {x4 : Int32} {x5 : Int32} (hE : sX15_isBecoming_132 F k_62 h x0 x1 x2 x3 x4 x5 = some o) : Le h o.2 := by
  exact moX15_isBecoming_133 mk_62 hE
set_option maxRecDepth 20000 in
theorem moX15_isBecoming_77 {o : Int32 × Hp} {k_62 : Hp → Nat → Nat → Int32 → Int32 → Int32 → Option (Int32 × Hp)} {F : Nat} (mk_62 : ∀ (h : Hp) (x0 : Nat) (x1 : Nat) (x2 : Int32) (x3 : Int32) (x4 : Int32), k_62 h x0 x1 x2 x3 x4 = some o → Le h o.2) {h : Hp} {x0 : Nat} {x1 : Nat} {x2 : Int32} {x3 : Int32} {x4 : Int32} (hE : sX15_isBecoming_77 F k_62 h x0 x1 x2 x3 x4 = some o) : Le h o.2 := by
  obtain ⟨o_1, eo_1, hE⟩ := cl_e hE
  refine (moX15_manAt eo_1).tr ?_
  rcases br_e hE with ⟨_, hE⟩ | ⟨_, hE⟩
  · exact moX15_isBecoming_132 mk_62 hE
  · rcases br_e hE with ⟨_, hE⟩ | ⟨_, hE⟩
    · exact moX15_isBecoming_132 mk_62 hE
    · obtain ⟨r_4, er_4, hE⟩ := cl_e hE
      rcases br_e hE with ⟨_, hE⟩ | ⟨_, hE⟩
      · exact moX15_isBecoming_132 mk_62 hE
      · obtain ⟨r_6, er_6, hE⟩ := cl_e hE
        obtain ⟨r_7, er_7, hE⟩ := cl_e hE
        obtain ⟨g_8, hE⟩ := gd_e hE
        rcases br_e hE with ⟨_, hE⟩ | ⟨_, hE⟩
        · rcases br_e hE with ⟨_, hE⟩ | ⟨_, hE⟩
          · exact moX15_isBecoming_132 mk_62 hE
          · exact moX15_isBecoming_133 mk_62 hE
        · exact moX15_isBecoming_132 mk_62 hE
set_option maxRecDepth 20000 in
theorem moX15_isBecoming_254 {o : Int32 × Hp} {F : Nat} {h : Hp} {t0 : Int32} {t1 : Nat} (hE : sX15_isBecoming_254 F h  t0 t1 = some o) : Le h o.2 := by
  obtain ⟨h_1, eh_1, hE⟩ := nm_e2 hE
  refine (le_I eh_1).tr ?_
  exact le_some2 hE
set_option maxRecDepth 20000 in
theorem moX15_isBecoming_62 {o : Int32 × Hp} {F : Nat} : ∀ (f : Nat) {h : Hp} {x0 : Nat} {x1 : Nat} {x2 : Int32} {x3 : Int32} {x4 : Int32}, sX15_isBecoming_62 F f h x0 x1 x2 x3 x4 = some o → Le h o.2 := by
  intro f
  induction f with
  | zero =>
    intro h x0 x1 x2 x3 x4 hE
    rw [sX15_isBecoming_62] at hE
    cases hE
  | succ f ih =>
    intro h x0 x1 x2 x3 x4 hE
    rw [sX15_isBecoming_62] at hE
    have mk_62 : ∀ (h : Hp) (x0 : Nat) (x1 : Nat) (x2 : Int32) (x3 : Int32) (x4 : Int32), sX15_isBecoming_62 F f h x0 x1 x2 x3 x4 = some o → Le h o.2 := fun h x0 x1 x2 x3 x4 hE => ih hE
    rcases br_e hE with ⟨_, hE⟩ | ⟨_, hE⟩
    · exact moX15_isBecoming_77 mk_62 hE
    · obtain ⟨o_2, eo_2, hE⟩ := cl_e hE
      refine (moX15_isSign eo_2).tr ?_
      rcases br_e hE with ⟨_, hE⟩ | ⟨_, hE⟩
      · exact moX15_isBecoming_77 mk_62 hE
      · obtain ⟨r_4, er_4, hE⟩ := cl_e hE
        obtain ⟨r_5, er_5, hE⟩ := cl_e hE
        obtain ⟨g_6, hE⟩ := gd_e hE
        obtain ⟨h_7, eh_7, hE⟩ := nm_e2 hE
        refine (le_I eh_7).tr ?_
        obtain ⟨r_8, er_8, hE⟩ := cl_e hE
        obtain ⟨r_9, er_9, hE⟩ := cl_e hE
        rcases br_e hE with ⟨_, hE⟩ | ⟨_, hE⟩
        · exact moX15_isBecoming_254 hE
        · obtain ⟨r_11, er_11, hE⟩ := cl_e hE
          exact moX15_isBecoming_254 hE
set_option maxRecDepth 20000 in
theorem moX15_isBecoming {o : Int32 × Hp} {F : Nat} {h : Hp} {x0 : Nat} {x1 : Nat} {x2 : Int32} (hE : sX15_isBecoming F h x0 x1 x2 = some o) : Le h o.2 := by
  obtain ⟨o_1, eo_1, hE⟩ := cl_e hE
  refine (moX15_nextToken eo_1).tr ?_
  obtain ⟨o_2, eo_2, hE⟩ := cl_e hE
  refine (moX15_manAt eo_2).tr ?_
  rcases br_e hE with ⟨_, hE⟩ | ⟨_, hE⟩
  · exact moX15_isBecoming_51 hE
  · obtain ⟨r_4, er_4, hE⟩ := cl_e hE
    rcases br_e hE with ⟨_, hE⟩ | ⟨_, hE⟩
    · exact moX15_isBecoming_51 hE
    · obtain ⟨r_6, er_6, hE⟩ := cl_e hE
      obtain ⟨r_7, er_7, hE⟩ := cl_e hE
      obtain ⟨g_8, hE⟩ := gd_e hE
      rcases br_e hE with ⟨_, hE⟩ | ⟨_, hE⟩
      · exact moX15_isBecoming_51 hE
      · obtain ⟨r_10, er_10, hE⟩ := cl_e hE
        obtain ⟨o_11, eo_11, hE⟩ := cl_e hE
        refine (moX14_isBecome eo_11).tr ?_
        rcases br_e hE with ⟨_, hE⟩ | ⟨_, hE⟩
        · obtain ⟨o_13, eo_13, hE⟩ := cl_e hE
          refine (moX15_nextToken eo_13).tr ?_
          exact moX15_isBecoming_62 _ hE
        · exact moX15_isBecoming_51 hE
set_option maxRecDepth 20000 in
theorem bX15_isBecoming_51 {p : Program} {l : Launch} {e : Env} {s : State} {m : MethodId} {args : Array Value} {below : List Frame} {meth : Method} {c : Code} {X : Ec} {h0 : Hp} {o : Int32 × Hp} {F : Nat} (C : Cx X p s m args meth c RX15 cX15_isBecoming 8 (some .boolean) "isBecoming") {h : Hp} {H : Heap} {locs : List Loc} (hkm : Km h0 h) (hW : Wx X h H) (hZ : va_S (aA (eB X)) s.heap H locs) (ls : Array Slot) (hl : lv_has ls 8 []) (hE : sX15_isBecoming_51 F h  = some o) : W p l e (rm 2 49) s m args below meth c H locs 0 0 (MQ below (QI X h0 o.1 o.2) args s 0 0 (aA (eB X))) (F0 m 51 ls []) := by
  refine lv_iconst (v := (0 : Int32)) C.1 C.2.1 dX15_isBecoming_51 (by decide) ?_
  exact x_iret C rfl (by decide) hW hZ hkm hE dX15_isBecoming_52
set_option maxRecDepth 20000 in
theorem bX15_isBecoming_172 {p : Program} {l : Launch} {e : Env} {s : State} {m : MethodId} {args : Array Value} {below : List Frame} {meth : Method} {c : Code} {X : Ec} {h0 : Hp} {o : Int32 × Hp} {k_62 : Hp → Nat → Nat → Int32 → Int32 → Int32 → Option (Int32 × Hp)} {k_138 : Hp → Nat → Nat → Int32 → Int32 → Int32 → Int32 → Int32 → Int32 → Option (Int32 × Hp)} {F : Nat} (C : Cx X p s m args meth c RX15 cX15_isBecoming 8 (some .boolean) "isBecoming") (hk_62 : ∀ (h : Hp) (x0 : Nat) (x1 : Nat) (x2 : Int32) (x3 : Int32) (x4 : Int32) (H : Heap) (locs : List Loc), hK h x0 = 15 → hK h x1 = 16 → Km h0 h → Wx X h H → va_S (aA (eB X)) s.heap H locs → ∀ (ls : Array Slot), lv_has ls 8 [(0, .ref x0), (1, .ref x1), (2, .int x2), (3, .int x3), (4, .int x4)] → k_62 h x0 x1 x2 x3 x4 = some o → W p l e (rm 2 49) s m args below meth c H locs 0 0 (MQ below (QI X h0 o.1 o.2) args s 0 0 (aA (eB X))) (F0 m 62 ls [])) (hk_138 : ∀ (h : Hp) (x0 : Nat) (x1 : Nat) (x2 : Int32) (x3 : Int32) (x4 : Int32) (x5 : Int32) (x6 : Int32) (x7 : Int32) (H : Heap) (locs : List Loc), hK h x0 = 15 → hK h x1 = 16 → Km h0 h → Wx X h H → va_S (aA (eB X)) s.heap H locs → ∀ (ls : Array Slot), lv_has ls 8 [(0, .ref x0), (1, .ref x1), (2, .int x2), (3, .int x3), (4, .int x4), (5, .int x5), (6, .int x6), (7, .int x7)] → k_138 h x0 x1 x2 x3 x4 x5 x6 x7 = some o → W p l e (rm 2 49) s m args below meth c H locs 0 0 (MQ below (QI X h0 o.1 o.2) args s 0 0 (aA (eB X))) (F0 m 138 ls [])) {h : Hp} {x0 : Nat} {x1 : Nat} {x2 : Int32} {x3 : Int32} {x4 : Int32} {x5 : Int32} {x7 : Int32} {t0 : Int32} {t1 : Int32} {H : Heap} {locs : List Loc} (k_x0 : hK h x0 = 15) (k_x1 : hK h x1 = 16) (hkm : Km h0 h) (hW : Wx X h H) (hZ : va_S (aA (eB X)) s.heap H locs) (ls : Array Slot) (hl : lv_has ls 8 [(0, .ref x0), (1, .ref x1), (2, .int x2), (3, .int x3), (4, .int x4), (5, .int x5), (7, .int x7)]) (hE : sX15_isBecoming_172 F k_62 k_138 h x0 x1 x2 x3 x4 x5 x7 t0 t1 = some o) : W p l e (rm 2 49) s m args below meth c H locs 0 0 (MQ below (QI X h0 o.1 o.2) args s 0 0 (aA (eB X))) (F0 m 172 ls [.int t0, .int t1]) := by
  refine lv_iand C.1 C.2.1 dX15_isBecoming_172 ?_
  obtain ⟨v_1, ev_1, hE⟩ := nm_e2 hE
  refine x_nmI ev_1 ?_
  refine lv_istore (lv' := [(6, .int v_1), (0, .ref x0), (1, .ref x1), (2, .int x2), (3, .int x3), (4, .int x4), (5, .int x5), (7, .int x7)]) C.1 C.2.1 dX15_isBecoming_173 hl (by decide) rfl (fun ls hl => ?_)
  obtain ⟨v_2, ev_2, hE⟩ := nm_e2 hE
  refine lv_iinc (v := v_2) (lv' := [(7, .int v_2), (6, .int v_1), (0, .ref x0), (1, .ref x1), (2, .int x2), (3, .int x3), (4, .int x4), (5, .int x5)]) C.1 C.2.1 dX15_isBecoming_175 hl (k := 7) rfl (by rw [ev_2]; rfl) (by decide) rfl (fun ls hl => ?_)
  refine lv_goto (tgt := 138) C.1 C.2.1 dX15_isBecoming_178 (by decide) ?_
  exact hk_138 _ _ _ _ _ _ _ _ _ _ _ k_x0 k_x1 hkm hW hZ _ (lv_sub hl [2, 3, 4, 5, 6, 7, 1, 0] rfl) hE
set_option maxRecDepth 20000 in
theorem bX15_isBecoming_138 {p : Program} {l : Launch} {e : Env} {s : State} {m : MethodId} {args : Array Value} {below : List Frame} {meth : Method} {c : Code} {X : Ec} {h0 : Hp} {o : Int32 × Hp} {k_62 : Hp → Nat → Nat → Int32 → Int32 → Int32 → Option (Int32 × Hp)} {F : Nat} (C : Cx X p s m args meth c RX15 cX15_isBecoming 8 (some .boolean) "isBecoming") (hk_62 : ∀ (h : Hp) (x0 : Nat) (x1 : Nat) (x2 : Int32) (x3 : Int32) (x4 : Int32) (H : Heap) (locs : List Loc), hK h x0 = 15 → hK h x1 = 16 → Km h0 h → Wx X h H → va_S (aA (eB X)) s.heap H locs → ∀ (ls : Array Slot), lv_has ls 8 [(0, .ref x0), (1, .ref x1), (2, .int x2), (3, .int x3), (4, .int x4)] → k_62 h x0 x1 x2 x3 x4 = some o → W p l e (rm 2 49) s m args below meth c H locs 0 0 (MQ below (QI X h0 o.1 o.2) args s 0 0 (aA (eB X))) (F0 m 62 ls [])) : ∀ (f : Nat) {h : Hp} {x0 : Nat} {x1 : Nat} {x2 : Int32} {x3 : Int32} {x4 : Int32} {x5 : Int32} {x6 : Int32} {x7 : Int32} {H : Heap} {locs : List Loc} (k_x0 : hK h x0 = 15) (k_x1 : hK h x1 = 16), Km h0 h → Wx X h H → va_S (aA (eB X)) s.heap H locs → ∀ (ls : Array Slot), lv_has ls 8 [(0, .ref x0), (1, .ref x1), (2, .int x2), (3, .int x3), (4, .int x4), (5, .int x5), (6, .int x6), (7, .int x7)] → sX15_isBecoming_138 F k_62 f h x0 x1 x2 x3 x4 x5 x6 x7 = some o → W p l e (rm 2 49) s m args below meth c H locs 0 0 (MQ below (QI X h0 o.1 o.2) args s 0 0 (aA (eB X))) (F0 m 138 ls []) := by
  intro f
  induction f with
  | zero =>
    intro h x0 x1 x2 x3 x4 x5 x6 x7 H locs k_x0 k_x1 hkm hW hZ ls hl hE
    rw [sX15_isBecoming_138] at hE
    cases hE
  | succ f ih =>
    intro h x0 x1 x2 x3 x4 x5 x6 x7 H locs k_x0 k_x1 hkm hW hZ ls hl hE
    rw [sX15_isBecoming_138] at hE
    have hk_138 : ∀ (h : Hp) (x0 : Nat) (x1 : Nat) (x2 : Int32) (x3 : Int32) (x4 : Int32) (x5 : Int32) (x6 : Int32) (x7 : Int32) (H : Heap) (locs : List Loc), hK h x0 = 15 → hK h x1 = 16 → Km h0 h → Wx X h H → va_S (aA (eB X)) s.heap H locs → ∀ (ls : Array Slot), lv_has ls 8 [(0, .ref x0), (1, .ref x1), (2, .int x2), (3, .int x3), (4, .int x4), (5, .int x5), (6, .int x6), (7, .int x7)] → sX15_isBecoming_138 F k_62 f h x0 x1 x2 x3 x4 x5 x6 x7 = some o → W p l e (rm 2 49) s m args below meth c H locs 0 0 (MQ below (QI X h0 o.1 o.2) args s 0 0 (aA (eB X))) (F0 m 138 ls []) := fun h x0 x1 x2 x3 x4 x5 x6 x7 H locs k_x0 k_x1 a b c ls hl hE => ih k_x0 k_x1 a b c ls hl hE
    refine lv_iload C.1 C.2.1 dX15_isBecoming_138 (lv_at hl 7 rfl) ?_
    refine lv_iload C.1 C.2.1 dX15_isBecoming_140 (lv_at hl 4 rfl) ?_
    refine lv_icmp_ge (tgt := 181) C.1 C.2.1 dX15_isBecoming_142 (by decide) (fun c_1 => ?_) (fun c_1 => ?_)
    · have hE := br_p hE c_1
      refine lv_iload C.1 C.2.1 dX15_isBecoming_181 (lv_at hl 6 rfl) ?_
      refine lv_if_ne (tgt := 188) C.1 C.2.1 dX15_isBecoming_183 (by decide) (fun c_2 => ?_) (fun c_2 => ?_)
      · have hE := br_n hE c_2
        refine lv_aload_n C.1 C.2.1 dX15_isBecoming_188 rfl (lv_at hl 0 rfl) ?_
        obtain ⟨r_3, er_3, hE⟩ := cl_e hE
        refine gf_X15_57 C hW k_x0 er_3 dX15_isBecoming_189 (fun k_r_3 => ?_)
        obtain ⟨r_4, er_4, hE⟩ := cl_e hE
        refine gf_X15_223 C hW k_r_3 er_4 dX15_isBecoming_192 (fun k_r_4 => ?_)
        refine lv_bipush (v := (6 : Int32)) C.1 C.2.1 dX15_isBecoming_195 (by decide) ?_
        refine lv_iload_n C.1 C.2.1 dX15_isBecoming_197 rfl (lv_at hl 3 rfl) ?_
        refine lv_imul C.1 C.2.1 dX15_isBecoming_198 ?_
        refine lv_iload C.1 C.2.1 dX15_isBecoming_199 (lv_at hl 4 rfl) ?_
        refine lv_iadd C.1 C.2.1 dX15_isBecoming_201 ?_
        refine lv_iload C.1 C.2.1 dX15_isBecoming_202 (lv_at hl 5 rfl) ?_
        obtain ⟨g_5, hE⟩ := gd_e hE
        obtain ⟨h_6, eh_6, hE⟩ := nm_e2 hE
        refine y_iast C hW hZ k_r_4 g_5 eh_6 dX15_isBecoming_204 (fun _ _ hW km hZ => ?_)
        replace hkm := hkm.tr km
        replace k_x0 := km.at k_x0 (by decide)
        replace k_x1 := km.at k_x1 (by decide)
        obtain ⟨v_7, ev_7, hE⟩ := nm_e2 hE
        refine lv_iinc (v := v_7) (lv' := [(4, .int v_7), (0, .ref x0), (1, .ref x1), (2, .int x2), (3, .int x3), (5, .int x5), (6, .int x6), (7, .int x7)]) C.1 C.2.1 dX15_isBecoming_205 hl (k := 4) rfl (by rw [ev_7]; rfl) (by decide) rfl (fun ls hl => ?_)
        refine lv_aload_n C.1 C.2.1 dX15_isBecoming_208 rfl (lv_at hl 1 rfl) ?_
        refine lv_aload_n C.1 C.2.1 dX15_isBecoming_209 rfl (lv_at hl 2 rfl) ?_
        refine lv_iload_n C.1 C.2.1 dX15_isBecoming_210 rfl (lv_at hl 3 rfl) ?_
        obtain ⟨o_8, eo_8, hE⟩ := cl_e hE
        refine x_kV (o := o_8) (z_runV (As := [.ref x1, .int x2]) (rest := []) C (ct_X15_nextToken l X F k_x0 k_x1 eo_8) cw_X15_74 hW hZ k_x0 (by decide) rfl rfl rfl hl.1 (Nat.le_of_ble_eq_true rfl) rfl dX15_isBecoming_211 ⟨Nat.le_of_ble_eq_true rfl, Nat.le_of_ble_eq_true rfl⟩ ⟨Nat.le_refl _, Nat.le_refl _⟩) hZ (fun _ _ hW km hZ => ?_)
        replace hkm := hkm.tr km
        replace k_x0 := km.at k_x0 (by decide)
        replace k_x1 := km.at k_x1 (by decide)
        refine lv_goto (tgt := 62) C.1 C.2.1 dX15_isBecoming_214 (by decide) ?_
        exact hk_62 _ _ _ _ _ _ _ _ k_x0 k_x1 hkm hW hZ _ (lv_sub hl [1, 2, 3, 4, 0] rfl) hE
      · have hE := br_p hE c_2
        refine lv_iconst (v := (0 : Int32)) C.1 C.2.1 dX15_isBecoming_186 (by decide) ?_
        exact x_iret C rfl (by decide) hW hZ hkm hE dX15_isBecoming_187
    · have hE := br_n hE c_1
      refine lv_iload C.1 C.2.1 dX15_isBecoming_145 (lv_at hl 6 rfl) ?_
      refine lv_aload_n C.1 C.2.1 dX15_isBecoming_147 rfl (lv_at hl 0 rfl) ?_
      obtain ⟨r_9, er_9, hE⟩ := cl_e hE
      refine gf_X15_57 C hW k_x0 er_9 dX15_isBecoming_148 (fun k_r_9 => ?_)
      obtain ⟨r_10, er_10, hE⟩ := cl_e hE
      refine gf_X15_223 C hW k_r_9 er_10 dX15_isBecoming_151 (fun k_r_10 => ?_)
      refine lv_bipush (v := (6 : Int32)) C.1 C.2.1 dX15_isBecoming_154 (by decide) ?_
      refine lv_iload_n C.1 C.2.1 dX15_isBecoming_156 rfl (lv_at hl 3 rfl) ?_
      refine lv_imul C.1 C.2.1 dX15_isBecoming_157 ?_
      refine lv_iload C.1 C.2.1 dX15_isBecoming_158 (lv_at hl 7 rfl) ?_
      refine lv_iadd C.1 C.2.1 dX15_isBecoming_160 ?_
      obtain ⟨g_11, hE⟩ := gd_e hE
      refine y_iald C hW k_r_10 g_11 dX15_isBecoming_161 ?_
      refine lv_iload C.1 C.2.1 dX15_isBecoming_162 (lv_at hl 5 rfl) ?_
      refine lv_icmp_eq (tgt := 171) C.1 C.2.1 dX15_isBecoming_164 (by decide) (fun c_12 => ?_) (fun c_12 => ?_)
      · have hE := br_p hE c_12
        refine lv_iconst (v := (0 : Int32)) C.1 C.2.1 dX15_isBecoming_171 (by decide) ?_
        exact bX15_isBecoming_172 C hk_62 hk_138 k_x0 k_x1 hkm hW hZ _ (lv_sub hl [0, 1, 2, 3, 4, 5, 7] rfl) hE
      · have hE := br_n hE c_12
        refine lv_iconst (v := (1 : Int32)) C.1 C.2.1 dX15_isBecoming_167 (by decide) ?_
        refine lv_goto (tgt := 172) C.1 C.2.1 dX15_isBecoming_168 (by decide) ?_
        exact bX15_isBecoming_172 C hk_62 hk_138 k_x0 k_x1 hkm hW hZ _ (lv_sub hl [0, 1, 2, 3, 4, 5, 7] rfl) hE
set_option maxRecDepth 20000 in
theorem bX15_isBecoming_133 {p : Program} {l : Launch} {e : Env} {s : State} {m : MethodId} {args : Array Value} {below : List Frame} {meth : Method} {c : Code} {X : Ec} {h0 : Hp} {o : Int32 × Hp} {k_62 : Hp → Nat → Nat → Int32 → Int32 → Int32 → Option (Int32 × Hp)} {F : Nat} (C : Cx X p s m args meth c RX15 cX15_isBecoming 8 (some .boolean) "isBecoming") (hk_62 : ∀ (h : Hp) (x0 : Nat) (x1 : Nat) (x2 : Int32) (x3 : Int32) (x4 : Int32) (H : Heap) (locs : List Loc), hK h x0 = 15 → hK h x1 = 16 → Km h0 h → Wx X h H → va_S (aA (eB X)) s.heap H locs → ∀ (ls : Array Slot), lv_has ls 8 [(0, .ref x0), (1, .ref x1), (2, .int x2), (3, .int x3), (4, .int x4)] → k_62 h x0 x1 x2 x3 x4 = some o → W p l e (rm 2 49) s m args below meth c H locs 0 0 (MQ below (QI X h0 o.1 o.2) args s 0 0 (aA (eB X))) (F0 m 62 ls [])) {h : Hp} {x0 : Nat} {x1 : Nat} {x2 : Int32} {x3 : Int32} {x4 : Int32} {x5 : Int32} {t0 : Int32} {H : Heap} {locs : List Loc} (k_x0 : hK h x0 = 15) (k_x1 : hK h x1 = 16) (hkm : Km h0 h) (hW : Wx X h H) (hZ : va_S (aA (eB X)) s.heap H locs) (ls : Array Slot) (hl : lv_has ls 8 [(0, .ref x0), (1, .ref x1), (2, .int x2), (3, .int x3), (4, .int x4), (5, .int x5)]) (hE : sX15_isBecoming_133 F k_62 h x0 x1 x2 x3 x4 x5 t0 = some o) : W p l e (rm 2 49) s m args below meth c H locs 0 0 (MQ below (QI X h0 o.1 o.2) args s 0 0 (aA (eB X))) (F0 m 133 ls [.int t0]) := by
  refine lv_istore (lv' := [(6, .int t0), (0, .ref x0), (1, .ref x1), (2, .int x2), (3, .int x3), (4, .int x4), (5, .int x5)]) C.1 C.2.1 dX15_isBecoming_133 hl (by decide) rfl (fun ls hl => ?_)
  refine lv_iconst (v := (0 : Int32)) C.1 C.2.1 dX15_isBecoming_135 (by decide) ?_
  refine lv_istore (lv' := [(7, .int (0 : Int32)), (6, .int t0), (0, .ref x0), (1, .ref x1), (2, .int x2), (3, .int x3), (4, .int x4), (5, .int x5)]) C.1 C.2.1 dX15_isBecoming_136 hl (by decide) rfl (fun ls hl => ?_)
  exact bX15_isBecoming_138 C hk_62 F k_x0 k_x1 hkm hW hZ _ (lv_sub hl [2, 3, 4, 5, 6, 7, 1, 0] rfl) hE
set_option maxRecDepth 20000 in
theorem bX15_isBecoming_132 {p : Program} {l : Launch} {e : Env} {s : State} {m : MethodId} {args : Array Value} {below : List Frame} {meth : Method} {c : Code} {X : Ec} {h0 : Hp} {o : Int32 × Hp} {k_62 : Hp → Nat → Nat → Int32 → Int32 → Int32 → Option (Int32 × Hp)} {F : Nat} (C : Cx X p s m args meth c RX15 cX15_isBecoming 8 (some .boolean) "isBecoming") (hk_62 : ∀ (h : Hp) (x0 : Nat) (x1 : Nat) (x2 : Int32) (x3 : Int32) (x4 : Int32) (H : Heap) (locs : List Loc), hK h x0 = 15 → hK h x1 = 16 → Km h0 h → Wx X h H → va_S (aA (eB X)) s.heap H locs → ∀ (ls : Array Slot), lv_has ls 8 [(0, .ref x0), (1, .ref x1), (2, .int x2), (3, .int x3), (4, .int x4)] → k_62 h x0 x1 x2 x3 x4 = some o → W p l e (rm 2 49) s m args below meth c H locs 0 0 (MQ below (QI X h0 o.1 o.2) args s 0 0 (aA (eB X))) (F0 m 62 ls [])) {h : Hp} {x0 : Nat} {x1 : Nat} {x2 : Int32} {x3 : Int32} {x4 : Int32} {x5 : Int32} {H : Heap} {locs : List Loc} (k_x0 : hK h x0 = 15) (k_x1 : hK h x1 = 16) (hkm : Km h0 h) (hW : Wx X h H) (hZ : va_S (aA (eB X)) s.heap H locs) (ls : Array Slot) (hl : lv_has ls 8 [(0, .ref x0), (1, .ref x1), (2, .int x2), (3, .int x3), (4, .int x4), (5, .int x5)]) (hE : sX15_isBecoming_132 F k_62 h x0 x1 x2 x3 x4 x5 = some o) : W p l e (rm 2 49) s m args below meth c H locs 0 0 (MQ below (QI X h0 o.1 o.2) args s 0 0 (aA (eB X))) (F0 m 132 ls []) := by
  refine lv_iconst (v := (0 : Int32)) C.1 C.2.1 dX15_isBecoming_132 (by decide) ?_
  exact bX15_isBecoming_133 C hk_62 k_x0 k_x1 hkm hW hZ _ (lv_sub hl [0, 1, 2, 3, 4, 5] rfl) hE
set_option maxRecDepth 20000 in
theorem bX15_isBecoming_77 {p : Program} {l : Launch} {e : Env} {s : State} {m : MethodId} {args : Array Value} {below : List Frame} {meth : Method} {c : Code} {X : Ec} {h0 : Hp} {o : Int32 × Hp} {k_62 : Hp → Nat → Nat → Int32 → Int32 → Int32 → Option (Int32 × Hp)} {F : Nat} (C : Cx X p s m args meth c RX15 cX15_isBecoming 8 (some .boolean) "isBecoming") (hk_62 : ∀ (h : Hp) (x0 : Nat) (x1 : Nat) (x2 : Int32) (x3 : Int32) (x4 : Int32) (H : Heap) (locs : List Loc), hK h x0 = 15 → hK h x1 = 16 → Km h0 h → Wx X h H → va_S (aA (eB X)) s.heap H locs → ∀ (ls : Array Slot), lv_has ls 8 [(0, .ref x0), (1, .ref x1), (2, .int x2), (3, .int x3), (4, .int x4)] → k_62 h x0 x1 x2 x3 x4 = some o → W p l e (rm 2 49) s m args below meth c H locs 0 0 (MQ below (QI X h0 o.1 o.2) args s 0 0 (aA (eB X))) (F0 m 62 ls [])) {h : Hp} {x0 : Nat} {x1 : Nat} {x2 : Int32} {x3 : Int32} {x4 : Int32} {H : Heap} {locs : List Loc} (k_x0 : hK h x0 = 15) (k_x1 : hK h x1 = 16) (hkm : Km h0 h) (hW : Wx X h H) (hZ : va_S (aA (eB X)) s.heap H locs) (ls : Array Slot) (hl : lv_has ls 8 [(0, .ref x0), (1, .ref x1), (2, .int x2), (3, .int x3), (4, .int x4)]) (hE : sX15_isBecoming_77 F k_62 h x0 x1 x2 x3 x4 = some o) : W p l e (rm 2 49) s m args below meth c H locs 0 0 (MQ below (QI X h0 o.1 o.2) args s 0 0 (aA (eB X))) (F0 m 77 ls []) := by
  refine lv_aload_n C.1 C.2.1 dX15_isBecoming_77 rfl (lv_at hl 0 rfl) ?_
  refine lv_aload_n C.1 C.2.1 dX15_isBecoming_78 rfl (lv_at hl 1 rfl) ?_
  obtain ⟨o_1, eo_1, hE⟩ := cl_e hE
  refine x_kI (o := o_1) (z_runV (As := [.ref x1]) (rest := []) C (ct_X15_manAt l X F k_x0 k_x1 eo_1) cw_X15_165 hW hZ k_x0 (by decide) rfl rfl rfl hl.1 (Nat.le_of_ble_eq_true rfl) rfl dX15_isBecoming_79 ⟨Nat.le_of_ble_eq_true rfl, Nat.le_of_ble_eq_true rfl⟩ ⟨Nat.le_refl _, Nat.le_refl _⟩) hZ (fun _ _ hW km hZ => ?_)
  replace hkm := hkm.tr km
  replace k_x0 := km.at k_x0 (by decide)
  replace k_x1 := km.at k_x1 (by decide)
  refine lv_istore (lv' := [(5, .int o_1.1), (0, .ref x0), (1, .ref x1), (2, .int x2), (3, .int x3), (4, .int x4)]) C.1 C.2.1 dX15_isBecoming_82 hl (by decide) rfl (fun ls hl => ?_)
  refine lv_iload C.1 C.2.1 dX15_isBecoming_84 (lv_at hl 0 rfl) ?_
  refine lv_iconst (v := (-1 : Int32)) C.1 C.2.1 dX15_isBecoming_86 (by decide) ?_
  refine lv_icmp_eq (tgt := 132) C.1 C.2.1 dX15_isBecoming_87 (by decide) (fun c_2 => ?_) (fun c_2 => ?_)
  · have hE := br_p hE c_2
    exact bX15_isBecoming_132 C hk_62 k_x0 k_x1 hkm hW hZ _ (lv_sub hl [1, 2, 3, 4, 5, 0] rfl) hE
  · have hE := br_n hE c_2
    refine lv_iload C.1 C.2.1 dX15_isBecoming_90 (lv_at hl 0 rfl) ?_
    refine lv_iload_n C.1 C.2.1 dX15_isBecoming_92 rfl (lv_at hl 4 rfl) ?_
    refine lv_icmp_eq (tgt := 132) C.1 C.2.1 dX15_isBecoming_93 (by decide) (fun c_3 => ?_) (fun c_3 => ?_)
    · have hE := br_p hE c_3
      exact bX15_isBecoming_132 C hk_62 k_x0 k_x1 hkm hW hZ _ (lv_sub hl [1, 2, 3, 4, 5, 0] rfl) hE
    · have hE := br_n hE c_3
      refine lv_iload C.1 C.2.1 dX15_isBecoming_96 (lv_at hl 0 rfl) ?_
      refine lv_aload_n C.1 C.2.1 dX15_isBecoming_98 rfl (lv_at hl 1 rfl) ?_
      obtain ⟨r_4, er_4, hE⟩ := cl_e hE
      refine gf_X15_57 C hW k_x0 er_4 dX15_isBecoming_99 (fun k_r_4 => ?_)
      refine gf_X15_221 C hW k_r_4 dX15_isBecoming_102 ?_
      refine lv_icmp_eq (tgt := 132) C.1 C.2.1 dX15_isBecoming_105 (by decide) (fun c_5 => ?_) (fun c_5 => ?_)
      · have hE := br_p hE c_5
        exact bX15_isBecoming_132 C hk_62 k_x0 k_x1 hkm hW hZ _ (lv_sub hl [1, 2, 3, 4, 5, 0] rfl) hE
      · have hE := br_n hE c_5
        refine lv_aload_n C.1 C.2.1 dX15_isBecoming_108 rfl (lv_at hl 1 rfl) ?_
        obtain ⟨r_6, er_6, hE⟩ := cl_e hE
        refine gf_X15_57 C hW k_x0 er_6 dX15_isBecoming_109 (fun k_r_6 => ?_)
        obtain ⟨r_7, er_7, hE⟩ := cl_e hE
        refine gf_X15_215 C hW k_r_6 er_7 dX15_isBecoming_112 (fun k_r_7 => ?_)
        refine lv_iload C.1 C.2.1 dX15_isBecoming_115 (lv_at hl 0 rfl) ?_
        obtain ⟨g_8, hE⟩ := gd_e hE
        refine y_iald C hW k_r_7 g_8 dX15_isBecoming_117 ?_
        refine lv_if_ne (tgt := 132) C.1 C.2.1 dX15_isBecoming_118 (by decide) (fun c_9 => ?_) (fun c_9 => ?_)
        · have hE := br_n hE c_9
          exact bX15_isBecoming_132 C hk_62 k_x0 k_x1 hkm hW hZ _ (lv_sub hl [1, 2, 3, 4, 5, 0] rfl) hE
        · have hE := br_p hE c_9
          refine lv_iload C.1 C.2.1 dX15_isBecoming_121 (lv_at hl 5 rfl) ?_
          refine lv_bipush (v := (6 : Int32)) C.1 C.2.1 dX15_isBecoming_123 (by decide) ?_
          refine lv_icmp_ge (tgt := 132) C.1 C.2.1 dX15_isBecoming_125 (by decide) (fun c_10 => ?_) (fun c_10 => ?_)
          · have hE := br_p hE c_10
            exact bX15_isBecoming_132 C hk_62 k_x0 k_x1 hkm hW hZ _ (lv_sub hl [1, 2, 3, 4, 5, 0] rfl) hE
          · have hE := br_n hE c_10
            refine lv_iconst (v := (1 : Int32)) C.1 C.2.1 dX15_isBecoming_128 (by decide) ?_
            refine lv_goto (tgt := 133) C.1 C.2.1 dX15_isBecoming_129 (by decide) ?_
            exact bX15_isBecoming_133 C hk_62 k_x0 k_x1 hkm hW hZ _ (lv_sub hl [1, 2, 3, 4, 5, 0] rfl) hE
set_option maxRecDepth 20000 in
theorem bX15_isBecoming_254 {p : Program} {l : Launch} {e : Env} {s : State} {m : MethodId} {args : Array Value} {below : List Frame} {meth : Method} {c : Code} {X : Ec} {h0 : Hp} {o : Int32 × Hp} {F : Nat} (C : Cx X p s m args meth c RX15 cX15_isBecoming 8 (some .boolean) "isBecoming") {h : Hp} {t0 : Int32} {t1 : Nat} {H : Heap} {locs : List Loc} (k_t1 : hK h t1 = 14) (hkm : Km h0 h) (hW : Wx X h H) (hZ : va_S (aA (eB X)) s.heap H locs) (ls : Array Slot) (hl : lv_has ls 8 []) (hE : sX15_isBecoming_254 F h  t0 t1 = some o) : W p l e (rm 2 49) s m args below meth c H locs 0 0 (MQ below (QI X h0 o.1 o.2) args s 0 0 (aA (eB X))) (F0 m 254 ls [.int t0, .ref t1]) := by
  obtain ⟨h_1, eh_1, hE⟩ := nm_e2 hE
  refine pf_X15_225 C hW hZ k_t1 eh_1 dX15_isBecoming_254 (fun _ _ hW km hZ => ?_)
  replace hkm := hkm.tr km
  refine lv_iconst (v := (1 : Int32)) C.1 C.2.1 dX15_isBecoming_257 (by decide) ?_
  exact x_iret C rfl (by decide) hW hZ hkm hE dX15_isBecoming_258
set_option maxRecDepth 20000 in
theorem bX15_isBecoming_62 {p : Program} {l : Launch} {e : Env} {s : State} {m : MethodId} {args : Array Value} {below : List Frame} {meth : Method} {c : Code} {X : Ec} {h0 : Hp} {o : Int32 × Hp} {F : Nat} (C : Cx X p s m args meth c RX15 cX15_isBecoming 8 (some .boolean) "isBecoming") : ∀ (f : Nat) {h : Hp} {x0 : Nat} {x1 : Nat} {x2 : Int32} {x3 : Int32} {x4 : Int32} {H : Heap} {locs : List Loc} (k_x0 : hK h x0 = 15) (k_x1 : hK h x1 = 16), Km h0 h → Wx X h H → va_S (aA (eB X)) s.heap H locs → ∀ (ls : Array Slot), lv_has ls 8 [(0, .ref x0), (1, .ref x1), (2, .int x2), (3, .int x3), (4, .int x4)] → sX15_isBecoming_62 F f h x0 x1 x2 x3 x4 = some o → W p l e (rm 2 49) s m args below meth c H locs 0 0 (MQ below (QI X h0 o.1 o.2) args s 0 0 (aA (eB X))) (F0 m 62 ls []) := by
  intro f
  induction f with
  | zero =>
    intro h x0 x1 x2 x3 x4 H locs k_x0 k_x1 hkm hW hZ ls hl hE
    rw [sX15_isBecoming_62] at hE
    cases hE
  | succ f ih =>
    intro h x0 x1 x2 x3 x4 H locs k_x0 k_x1 hkm hW hZ ls hl hE
    rw [sX15_isBecoming_62] at hE
    have hk_62 : ∀ (h : Hp) (x0 : Nat) (x1 : Nat) (x2 : Int32) (x3 : Int32) (x4 : Int32) (H : Heap) (locs : List Loc), hK h x0 = 15 → hK h x1 = 16 → Km h0 h → Wx X h H → va_S (aA (eB X)) s.heap H locs → ∀ (ls : Array Slot), lv_has ls 8 [(0, .ref x0), (1, .ref x1), (2, .int x2), (3, .int x3), (4, .int x4)] → sX15_isBecoming_62 F f h x0 x1 x2 x3 x4 = some o → W p l e (rm 2 49) s m args below meth c H locs 0 0 (MQ below (QI X h0 o.1 o.2) args s 0 0 (aA (eB X))) (F0 m 62 ls []) := fun h x0 x1 x2 x3 x4 H locs k_x0 k_x1 a b c ls hl hE => ih k_x0 k_x1 a b c ls hl hE
    refine lv_iload C.1 C.2.1 dX15_isBecoming_62 (lv_at hl 4 rfl) ?_
    refine lv_if_eq (tgt := 77) C.1 C.2.1 dX15_isBecoming_64 (by decide) (fun c_1 => ?_) (fun c_1 => ?_)
    · have hE := br_p hE c_1
      exact bX15_isBecoming_77 C hk_62 k_x0 k_x1 hkm hW hZ _ (lv_sub hl [0, 1, 2, 3, 4] rfl) hE
    · have hE := br_n hE c_1
      refine lv_aload_n C.1 C.2.1 dX15_isBecoming_67 rfl (lv_at hl 0 rfl) ?_
      refine lv_aload_n C.1 C.2.1 dX15_isBecoming_68 rfl (lv_at hl 1 rfl) ?_
      refine lv_bipush (v := (59 : Int32)) C.1 C.2.1 dX15_isBecoming_69 (by decide) ?_
      obtain ⟨o_2, eo_2, hE⟩ := cl_e hE
      refine x_kI (o := o_2) (z_runV (As := [.ref x1, .int (59 : Int32)]) (rest := []) C (ct_X15_isSign l X k_x0 k_x1 eo_2) cw_X15_94 hW hZ k_x0 (by decide) rfl rfl rfl hl.1 (Nat.le_of_ble_eq_true rfl) rfl dX15_isBecoming_71 ⟨Nat.le_of_ble_eq_true rfl, Nat.le_of_ble_eq_true rfl⟩ ⟨Nat.le_refl _, Nat.le_refl _⟩) hZ (fun _ _ hW km hZ => ?_)
      replace hkm := hkm.tr km
      replace k_x0 := km.at k_x0 (by decide)
      replace k_x1 := km.at k_x1 (by decide)
      refine lv_if_ne (tgt := 217) C.1 C.2.1 dX15_isBecoming_74 (by decide) (fun c_3 => ?_) (fun c_3 => ?_)
      · have hE := br_n hE c_3
        refine lv_aload_n C.1 C.2.1 dX15_isBecoming_217 rfl (lv_at hl 0 rfl) ?_
        obtain ⟨r_4, er_4, hE⟩ := cl_e hE
        refine gf_X15_57 C hW k_x0 er_4 dX15_isBecoming_218 (fun k_r_4 => ?_)
        obtain ⟨r_5, er_5, hE⟩ := cl_e hE
        refine gf_X15_215 C hW k_r_4 er_5 dX15_isBecoming_221 (fun k_r_5 => ?_)
        refine lv_iload_n C.1 C.2.1 dX15_isBecoming_224 rfl (lv_at hl 3 rfl) ?_
        refine lv_iload C.1 C.2.1 dX15_isBecoming_225 (lv_at hl 4 rfl) ?_
        obtain ⟨g_6, hE⟩ := gd_e hE
        obtain ⟨h_7, eh_7, hE⟩ := nm_e2 hE
        refine y_iast C hW hZ k_r_5 g_6 eh_7 dX15_isBecoming_227 (fun _ _ hW km hZ => ?_)
        replace hkm := hkm.tr km
        replace k_x0 := km.at k_x0 (by decide)
        replace k_x1 := km.at k_x1 (by decide)
        refine lv_aload_n C.1 C.2.1 dX15_isBecoming_228 rfl (lv_at hl 0 rfl) ?_
        obtain ⟨r_8, er_8, hE⟩ := cl_e hE
        refine gf_X15_57 C hW k_x0 er_8 dX15_isBecoming_229 (fun k_r_8 => ?_)
        refine lv_aload_n C.1 C.2.1 dX15_isBecoming_232 rfl (lv_at hl 0 rfl) ?_
        obtain ⟨r_9, er_9, hE⟩ := cl_e hE
        refine gf_X15_57 C hW k_x0 er_9 dX15_isBecoming_233 (fun k_r_9 => ?_)
        refine gf_X15_225 C hW k_r_9 dX15_isBecoming_236 ?_
        refine lv_iconst (v := (-1 : Int32)) C.1 C.2.1 dX15_isBecoming_239 (by decide) ?_
        refine lv_icmp_ne (tgt := 247) C.1 C.2.1 dX15_isBecoming_240 (by decide) (fun c_10 => ?_) (fun c_10 => ?_)
        · have hE := br_n hE c_10
          refine lv_aload_n C.1 C.2.1 dX15_isBecoming_247 rfl (lv_at hl 0 rfl) ?_
          obtain ⟨r_11, er_11, hE⟩ := cl_e hE
          refine gf_X15_57 C hW k_x0 er_11 dX15_isBecoming_248 (fun k_r_11 => ?_)
          refine gf_X15_225 C hW k_r_11 dX15_isBecoming_251 ?_
          exact bX15_isBecoming_254 C k_r_8 hkm hW hZ _ (lv_sub hl [] rfl) hE
        · have hE := br_p hE c_10
          refine lv_iload_n C.1 C.2.1 dX15_isBecoming_243 rfl (lv_at hl 3 rfl) ?_
          refine lv_goto (tgt := 254) C.1 C.2.1 dX15_isBecoming_244 (by decide) ?_
          exact bX15_isBecoming_254 C k_r_8 hkm hW hZ _ (lv_sub hl [] rfl) hE
      · have hE := br_p hE c_3
        exact bX15_isBecoming_77 C hk_62 k_x0 k_x1 hkm hW hZ _ (lv_sub hl [0, 1, 2, 3, 4] rfl) hE
set_option maxRecDepth 20000 in
theorem ct_X15_isBecoming (l : Launch) (X : Ec) (F : Nat) {h : Hp} {x0 : Nat} {x1 : Nat} {x2 : Int32} {o : Int32 × Hp} (k_x0 : hK h x0 = 15) (k_x1 : hK h x1 = 16) (hE : sX15_isBecoming F h x0 x1 x2 = some o) : MetI l yX15_isBecoming cX15_isBecoming 8 (some .boolean) 2 49 X [.ref x0, .ref x1, .int x2] h o := by
  refine x_met (by decide) (Nat.le_of_ble_eq_true rfl) ?_
  intro p e s m below meth c ls C hl hW hZ
  have hl : lv_has ls 8 [(0, .ref x0), (1, .ref x1), (2, .int x2)] := hl
  have hkm : Km h h := Km.rf h
  refine lv_aload_n C.1 C.2.1 dX15_isBecoming_0 rfl (lv_at hl 0 rfl) ?_
  refine lv_aload_n C.1 C.2.1 dX15_isBecoming_1 rfl (lv_at hl 1 rfl) ?_
  refine lv_iload_n C.1 C.2.1 dX15_isBecoming_2 rfl (lv_at hl 2 rfl) ?_
  obtain ⟨o_1, eo_1, hE⟩ := cl_e hE
  refine x_kV (o := o_1) (z_runV (As := [.ref x1, .int x2]) (rest := []) C (ct_X15_nextToken l X F k_x0 k_x1 eo_1) cw_X15_74 hW hZ k_x0 (by decide) rfl rfl rfl hl.1 (Nat.le_of_ble_eq_true rfl) rfl dX15_isBecoming_3 ⟨Nat.le_of_ble_eq_true rfl, Nat.le_of_ble_eq_true rfl⟩ ⟨Nat.le_refl _, Nat.le_refl _⟩) hZ (fun _ _ hW km hZ => ?_)
  replace hkm := hkm.tr km
  replace k_x0 := km.at k_x0 (by decide)
  replace k_x1 := km.at k_x1 (by decide)
  refine lv_aload_n C.1 C.2.1 dX15_isBecoming_6 rfl (lv_at hl 0 rfl) ?_
  refine lv_aload_n C.1 C.2.1 dX15_isBecoming_7 rfl (lv_at hl 1 rfl) ?_
  obtain ⟨o_2, eo_2, hE⟩ := cl_e hE
  refine x_kI (o := o_2) (z_runV (As := [.ref x1]) (rest := []) C (ct_X15_manAt l X F k_x0 k_x1 eo_2) cw_X15_165 hW hZ k_x0 (by decide) rfl rfl rfl hl.1 (Nat.le_of_ble_eq_true rfl) rfl dX15_isBecoming_8 ⟨Nat.le_of_ble_eq_true rfl, Nat.le_of_ble_eq_true rfl⟩ ⟨Nat.le_refl _, Nat.le_refl _⟩) hZ (fun _ _ hW km hZ => ?_)
  replace hkm := hkm.tr km
  replace k_x0 := km.at k_x0 (by decide)
  replace k_x1 := km.at k_x1 (by decide)
  refine lv_istore_n (lv' := [(3, .int o_2.1), (0, .ref x0), (1, .ref x1), (2, .int x2)]) C.1 C.2.1 dX15_isBecoming_11 rfl hl (by decide) rfl (fun ls hl => ?_)
  refine lv_iload_n C.1 C.2.1 dX15_isBecoming_12 rfl (lv_at hl 0 rfl) ?_
  refine lv_iconst (v := (-1 : Int32)) C.1 C.2.1 dX15_isBecoming_13 (by decide) ?_
  refine lv_icmp_eq (tgt := 51) C.1 C.2.1 dX15_isBecoming_14 (by decide) (fun c_3 => ?_) (fun c_3 => ?_)
  · have hE := br_p hE c_3
    exact bX15_isBecoming_51 C hkm hW hZ _ (lv_sub hl [] rfl) hE
  · have hE := br_n hE c_3
    refine lv_iload_n C.1 C.2.1 dX15_isBecoming_17 rfl (lv_at hl 0 rfl) ?_
    refine lv_aload_n C.1 C.2.1 dX15_isBecoming_18 rfl (lv_at hl 1 rfl) ?_
    obtain ⟨r_4, er_4, hE⟩ := cl_e hE
    refine gf_X15_57 C hW k_x0 er_4 dX15_isBecoming_19 (fun k_r_4 => ?_)
    refine gf_X15_221 C hW k_r_4 dX15_isBecoming_22 ?_
    refine lv_icmp_eq (tgt := 51) C.1 C.2.1 dX15_isBecoming_25 (by decide) (fun c_5 => ?_) (fun c_5 => ?_)
    · have hE := br_p hE c_5
      exact bX15_isBecoming_51 C hkm hW hZ _ (lv_sub hl [] rfl) hE
    · have hE := br_n hE c_5
      refine lv_aload_n C.1 C.2.1 dX15_isBecoming_28 rfl (lv_at hl 1 rfl) ?_
      obtain ⟨r_6, er_6, hE⟩ := cl_e hE
      refine gf_X15_57 C hW k_x0 er_6 dX15_isBecoming_29 (fun k_r_6 => ?_)
      obtain ⟨r_7, er_7, hE⟩ := cl_e hE
      refine gf_X15_215 C hW k_r_6 er_7 dX15_isBecoming_32 (fun k_r_7 => ?_)
      refine lv_iload_n C.1 C.2.1 dX15_isBecoming_35 rfl (lv_at hl 0 rfl) ?_
      obtain ⟨g_8, hE⟩ := gd_e hE
      refine y_iald C hW k_r_7 g_8 dX15_isBecoming_36 ?_
      refine lv_if_gt (tgt := 51) C.1 C.2.1 dX15_isBecoming_37 (by decide) (fun c_9 => ?_) (fun c_9 => ?_)
      · have hE := br_p hE c_9
        exact bX15_isBecoming_51 C hkm hW hZ _ (lv_sub hl [] rfl) hE
      · have hE := br_n hE c_9
        refine lv_aload_n C.1 C.2.1 dX15_isBecoming_40 rfl (lv_at hl 1 rfl) ?_
        obtain ⟨r_10, er_10, hE⟩ := cl_e hE
        refine gf_X15_57 C hW k_x0 er_10 dX15_isBecoming_41 (fun k_r_10 => ?_)
        refine lv_iload_n C.1 C.2.1 dX15_isBecoming_44 rfl (lv_at hl 0 rfl) ?_
        obtain ⟨o_11, eo_11, hE⟩ := cl_e hE
        refine x_kI (o := o_11) (z_runV (As := [.int o_2.1]) (rest := []) C (ct_X14_isBecome l X F k_r_10 eo_11) cw_X15_218 hW hZ k_r_10 (by decide) rfl rfl rfl hl.1 (Nat.le_of_ble_eq_true rfl) rfl dX15_isBecoming_45 ⟨Nat.le_of_ble_eq_true rfl, Nat.le_of_ble_eq_true rfl⟩ ⟨Nat.le_refl _, Nat.le_refl _⟩) hZ (fun _ _ hW km hZ => ?_)
        replace hkm := hkm.tr km
        replace k_x0 := km.at k_x0 (by decide)
        replace k_x1 := km.at k_x1 (by decide)
        refine lv_if_eq (tgt := 53) C.1 C.2.1 dX15_isBecoming_48 (by decide) (fun c_12 => ?_) (fun c_12 => ?_)
        · have hE := br_p hE c_12
          refine lv_aload_n C.1 C.2.1 dX15_isBecoming_53 rfl (lv_at hl 1 rfl) ?_
          refine lv_aload_n C.1 C.2.1 dX15_isBecoming_54 rfl (lv_at hl 2 rfl) ?_
          refine lv_iload_n C.1 C.2.1 dX15_isBecoming_55 rfl (lv_at hl 3 rfl) ?_
          obtain ⟨o_13, eo_13, hE⟩ := cl_e hE
          refine x_kV (o := o_13) (z_runV (As := [.ref x1, .int x2]) (rest := []) C (ct_X15_nextToken l X F k_x0 k_x1 eo_13) cw_X15_74 hW hZ k_x0 (by decide) rfl rfl rfl hl.1 (Nat.le_of_ble_eq_true rfl) rfl dX15_isBecoming_56 ⟨Nat.le_of_ble_eq_true rfl, Nat.le_of_ble_eq_true rfl⟩ ⟨Nat.le_refl _, Nat.le_refl _⟩) hZ (fun _ _ hW km hZ => ?_)
          replace hkm := hkm.tr km
          replace k_x0 := km.at k_x0 (by decide)
          replace k_x1 := km.at k_x1 (by decide)
          refine lv_iconst (v := (0 : Int32)) C.1 C.2.1 dX15_isBecoming_59 (by decide) ?_
          refine lv_istore (lv' := [(4, .int (0 : Int32)), (3, .int o_2.1), (0, .ref x0), (1, .ref x1), (2, .int x2)]) C.1 C.2.1 dX15_isBecoming_60 hl (by decide) rfl (fun ls hl => ?_)
          exact bX15_isBecoming_62 C F k_x0 k_x1 hkm hW hZ _ (lv_sub hl [2, 3, 4, 1, 0] rfl) hE
        · have hE := br_n hE c_12
          exact bX15_isBecoming_51 C hkm hW hZ _ (lv_sub hl [] rfl) hE
set_option maxRecDepth 100000 in
theorem m_2121 : Cond.fieldLink RX15 71 (TX15 10).1 (TX15 10).2.1 (TX15 10).2.2.1 ∈ W0 := w0_in (List.mem_append_right _ (List.mem_of_getElem? (i := 2121) rfl)) rfl
section
variable {p : Program} {l : Launch} {e : Env} {R : Room} {s : State} {m : MethodId} {args : Array Value} {below : List Frame} {meth : Method} {c : Code} {H : Heap} {locs : List Loc} {cells slots : Nat} {Q : State → Prop}
variable {cc : ByteArray} {pc : Nat} {ls : Array Slot} {rest : List Value} {X : Ec} {h h1 : Hp} {nL : Nat} {rt : Option FieldType} {mn : String}
theorem gf_X15_71 {a : Nat} (C : Cx X p s m args meth c RX15 cc nL rt mn) (hW : Wx X h H) (ha : hK h a = 15) (hdg : decode cc pc = .ok (.getfield 71, 3)) (kk : W p l e R s m args below meth c H locs cells slots Q (F0 m (pc + 3) ls (.int (hI h a 10) :: rest))) : W p l e R s m args below meth c H locs cells slots Q (F0 m pc ls (.ref a :: rest)) :=
  y_geti C hW ha i_X15 (by decide) rfl (by decide) m_2121 rfl hdg kk
theorem pf_X15_71 {a : Nat} {v : Int32} (C : Cx X p s m args meth c RX15 cc nL rt mn) (hW : Wx X h H) (hZ : va_S (aA (eB X)) s.heap H locs) (ha : hK h a = 15) (eh : h1 = wI h a 10 v) (hdg : decode cc pc = .ok (.putfield 71, 3)) (kk : ∀ (H1 : Heap) (locs1 : List Loc), Wx X h1 H1 → Km h h1 → va_S (aA (eB X)) s.heap H1 locs1 → W p l e R s m args below meth c H1 locs1 cells slots Q (F0 m (pc + 3) ls rest)) : W p l e R s m args below meth c H locs cells slots Q (F0 m pc ls (.int v :: .ref a :: rest)) :=
  y_puti (ty := .int) C hW hZ ha i_X15 tyX15 tyX15_ok nmX15 (by decide) rfl rfl (by decide) m_2121 rfl (by decide +kernel) rfl rfl rfl eh hdg kk
end
theorem dX15_isOnce_0 : decode cX15_isOnce 0 = .ok (.aload_n 0, 1) := by decide +kernel
theorem dX15_isOnce_1 : decode cX15_isOnce 1 = .ok (.getfield 71, 3) := by decide +kernel
theorem dX15_isOnce_4 : decode cX15_isOnce 4 = .ok (.iload_n 1, 1) := by decide +kernel
theorem dX15_isOnce_5 : decode cX15_isOnce 5 = .ok (.ishr, 1) := by decide +kernel
theorem dX15_isOnce_6 : decode cX15_isOnce 6 = .ok (.iconst 1, 1) := by decide +kernel
theorem dX15_isOnce_7 : decode cX15_isOnce 7 = .ok (.iand, 1) := by decide +kernel
theorem dX15_isOnce_8 : decode cX15_isOnce 8 = .ok (.ifCond .ne 7, 3) := by decide +kernel
theorem dX15_isOnce_11 : decode cX15_isOnce 11 = .ok (.iconst 1, 1) := by decide +kernel
theorem dX15_isOnce_12 : decode cX15_isOnce 12 = .ok (.goto 4, 3) := by decide +kernel
theorem dX15_isOnce_15 : decode cX15_isOnce 15 = .ok (.iconst 0, 1) := by decide +kernel
theorem dX15_isOnce_16 : decode cX15_isOnce 16 = .ok (.istore_n 2, 1) := by decide +kernel
theorem dX15_isOnce_17 : decode cX15_isOnce 17 = .ok (.aload_n 0, 1) := by decide +kernel
theorem dX15_isOnce_18 : decode cX15_isOnce 18 = .ok (.dup, 1) := by decide +kernel
theorem dX15_isOnce_19 : decode cX15_isOnce 19 = .ok (.getfield 71, 3) := by decide +kernel
theorem dX15_isOnce_22 : decode cX15_isOnce 22 = .ok (.iconst 1, 1) := by decide +kernel
theorem dX15_isOnce_23 : decode cX15_isOnce 23 = .ok (.iload_n 1, 1) := by decide +kernel
theorem dX15_isOnce_24 : decode cX15_isOnce 24 = .ok (.ishl, 1) := by decide +kernel
theorem dX15_isOnce_25 : decode cX15_isOnce 25 = .ok (.ior, 1) := by decide +kernel
theorem dX15_isOnce_26 : decode cX15_isOnce 26 = .ok (.putfield 71, 3) := by decide +kernel
theorem dX15_isOnce_29 : decode cX15_isOnce 29 = .ok (.iload_n 2, 1) := by decide +kernel
theorem dX15_isOnce_30 : decode cX15_isOnce 30 = .ok (.ireturn, 1) := by decide +kernel
set_option maxRecDepth 20000 in
theorem moX15_isOnce_16 {o : Int32 × Hp} {h : Hp} {x0 : Nat} {x1 : Int32} {t0 : Int32} (hE : sX15_isOnce_16 h x0 x1 t0 = some o) : Le h o.2 := by
  obtain ⟨h_1, eh_1, hE⟩ := nm_e2 hE
  refine (le_I eh_1).tr ?_
  obtain ⟨g_2, hE⟩ := gd_e hE
  exact le_some2 hE
set_option maxRecDepth 20000 in
theorem moX15_isOnce {o : Int32 × Hp} {h : Hp} {x0 : Nat} {x1 : Int32} (hE : sX15_isOnce h x0 x1 = some o) : Le h o.2 := by
  rcases br_e hE with ⟨_, hE⟩ | ⟨_, hE⟩
  · exact moX15_isOnce_16 hE
  · exact moX15_isOnce_16 hE
set_option maxRecDepth 20000 in
theorem bX15_isOnce_16 {p : Program} {l : Launch} {e : Env} {s : State} {m : MethodId} {args : Array Value} {below : List Frame} {meth : Method} {c : Code} {X : Ec} {h0 : Hp} {o : Int32 × Hp} (C : Cx X p s m args meth c RX15 cX15_isOnce 3 (some .boolean) "isOnce") {h : Hp} {x0 : Nat} {x1 : Int32} {t0 : Int32} {H : Heap} {locs : List Loc} (k_x0 : hK h x0 = 15) (hkm : Km h0 h) (hW : Wx X h H) (hZ : va_S (aA (eB X)) s.heap H locs) (ls : Array Slot) (hl : lv_has ls 3 [(0, .ref x0), (1, .int x1)]) (hE : sX15_isOnce_16 h x0 x1 t0 = some o) : W p l e (rm 0 0) s m args below meth c H locs 0 0 (MQ below (QI X h0 o.1 o.2) args s 0 0 (aA (eB X))) (F0 m 16 ls [.int t0]) := by
  refine lv_istore_n (lv' := [(2, .int t0), (0, .ref x0), (1, .int x1)]) C.1 C.2.1 dX15_isOnce_16 rfl hl (by decide) rfl (fun ls hl => ?_)
  refine lv_aload_n C.1 C.2.1 dX15_isOnce_17 rfl (lv_at hl 1 rfl) ?_
  refine lv_dup C.1 C.2.1 dX15_isOnce_18 rfl ?_
  refine gf_X15_71 C hW k_x0 dX15_isOnce_19 ?_
  refine lv_iconst (v := (1 : Int32)) C.1 C.2.1 dX15_isOnce_22 (by decide) ?_
  refine lv_iload_n C.1 C.2.1 dX15_isOnce_23 rfl (lv_at hl 2 rfl) ?_
  refine lv_ishl C.1 C.2.1 dX15_isOnce_24 ?_
  refine lv_ior C.1 C.2.1 dX15_isOnce_25 ?_
  obtain ⟨h_1, eh_1, hE⟩ := nm_e2 hE
  refine pf_X15_71 C hW hZ k_x0 eh_1 dX15_isOnce_26 (fun _ _ hW km hZ => ?_)
  replace hkm := hkm.tr km
  replace k_x0 := km.at k_x0 (by decide)
  refine lv_iload_n C.1 C.2.1 dX15_isOnce_29 rfl (lv_at hl 0 rfl) ?_
  obtain ⟨g_2, hE⟩ := gd_e hE
  exact x_iret C rfl (narB g_2) hW hZ hkm hE dX15_isOnce_30
set_option maxRecDepth 20000 in
theorem ct_X15_isOnce (l : Launch) (X : Ec) {h : Hp} {x0 : Nat} {x1 : Int32} {o : Int32 × Hp} (k_x0 : hK h x0 = 15) (hE : sX15_isOnce h x0 x1 = some o) : MetI l yX15_isOnce cX15_isOnce 3 (some .boolean) 0 0 X [.ref x0, .int x1] h o := by
  refine x_met (by decide) (Nat.le_of_ble_eq_true rfl) ?_
  intro p e s m below meth c ls C hl hW hZ
  have hl : lv_has ls 3 [(0, .ref x0), (1, .int x1)] := hl
  have hkm : Km h h := Km.rf h
  refine lv_aload_n C.1 C.2.1 dX15_isOnce_0 rfl (lv_at hl 0 rfl) ?_
  refine gf_X15_71 C hW k_x0 dX15_isOnce_1 ?_
  refine lv_iload_n C.1 C.2.1 dX15_isOnce_4 rfl (lv_at hl 1 rfl) ?_
  refine lv_ishr C.1 C.2.1 dX15_isOnce_5 ?_
  refine lv_iconst (v := (1 : Int32)) C.1 C.2.1 dX15_isOnce_6 (by decide) ?_
  refine lv_iand C.1 C.2.1 dX15_isOnce_7 ?_
  refine lv_if_ne (tgt := 15) C.1 C.2.1 dX15_isOnce_8 (by decide) (fun c_1 => ?_) (fun c_1 => ?_)
  · have hE := br_n hE c_1
    refine lv_iconst (v := (0 : Int32)) C.1 C.2.1 dX15_isOnce_15 (by decide) ?_
    exact bX15_isOnce_16 C k_x0 hkm hW hZ _ (lv_sub hl [0, 1] rfl) hE
  · have hE := br_p hE c_1
    refine lv_iconst (v := (1 : Int32)) C.1 C.2.1 dX15_isOnce_11 (by decide) ?_
    refine lv_goto (tgt := 16) C.1 C.2.1 dX15_isOnce_12 (by decide) ?_
    exact bX15_isOnce_16 C k_x0 hkm hW hZ _ (lv_sub hl [0, 1] rfl) hE
theorem dX15_goesOn_0 : decode cX15_goesOn 0 = .ok (.aload_n 0, 1) := by decide +kernel
theorem dX15_goesOn_1 : decode cX15_goesOn 1 = .ok (.aload_n 1, 1) := by decide +kernel
theorem dX15_goesOn_2 : decode cX15_goesOn 2 = .ok (.iload_n 2, 1) := by decide +kernel
theorem dX15_goesOn_3 : decode cX15_goesOn 3 = .ok (.invokevirtual 74, 3) := by decide +kernel
theorem dX15_goesOn_6 : decode cX15_goesOn 6 = .ok (.iconst 1, 1) := by decide +kernel
theorem dX15_goesOn_7 : decode cX15_goesOn 7 = .ok (.ireturn, 1) := by decide +kernel
set_option maxRecDepth 20000 in
theorem moX15_goesOn {o : Int32 × Hp} {F : Nat} {h : Hp} {x0 : Nat} {x1 : Nat} {x2 : Int32} (hE : sX15_goesOn F h x0 x1 x2 = some o) : Le h o.2 := by
  obtain ⟨o_1, eo_1, hE⟩ := cl_e hE
  refine (moX15_nextToken eo_1).tr ?_
  exact le_some2 hE
set_option maxRecDepth 20000 in
theorem ct_X15_goesOn (l : Launch) (X : Ec) (F : Nat) {h : Hp} {x0 : Nat} {x1 : Nat} {x2 : Int32} {o : Int32 × Hp} (k_x0 : hK h x0 = 15) (k_x1 : hK h x1 = 16) (hE : sX15_goesOn F h x0 x1 x2 = some o) : MetI l yX15_goesOn cX15_goesOn 3 (some .boolean) 2 49 X [.ref x0, .ref x1, .int x2] h o := by
  refine x_met (by decide) (Nat.le_of_ble_eq_true rfl) ?_
  intro p e s m below meth c ls C hl hW hZ
  have hl : lv_has ls 3 [(0, .ref x0), (1, .ref x1), (2, .int x2)] := hl
  have hkm : Km h h := Km.rf h
  refine lv_aload_n C.1 C.2.1 dX15_goesOn_0 rfl (lv_at hl 0 rfl) ?_
  refine lv_aload_n C.1 C.2.1 dX15_goesOn_1 rfl (lv_at hl 1 rfl) ?_
  refine lv_iload_n C.1 C.2.1 dX15_goesOn_2 rfl (lv_at hl 2 rfl) ?_
  obtain ⟨o_1, eo_1, hE⟩ := cl_e hE
  refine x_kV (o := o_1) (z_runV (As := [.ref x1, .int x2]) (rest := []) C (ct_X15_nextToken l X F k_x0 k_x1 eo_1) cw_X15_74 hW hZ k_x0 (by decide) rfl rfl rfl hl.1 (Nat.le_of_ble_eq_true rfl) rfl dX15_goesOn_3 ⟨Nat.le_of_ble_eq_true rfl, Nat.le_of_ble_eq_true rfl⟩ ⟨Nat.le_refl _, Nat.le_refl _⟩) hZ (fun _ _ hW km hZ => ?_)
  replace hkm := hkm.tr km
  replace k_x0 := km.at k_x0 (by decide)
  replace k_x1 := km.at k_x1 (by decide)
  refine lv_iconst (v := (1 : Int32)) C.1 C.2.1 dX15_goesOn_6 (by decide) ?_
  exact x_iret C rfl (by decide) hW hZ hkm hE dX15_goesOn_7
set_option maxRecDepth 100000 in
theorem ms_127 : Cond.selects RX15 yX15_goesOn yX15_goesOn ∈ W0 := w0_in (List.mem_append_left _ (List.mem_of_getElem? (i := 127) rfl)) rfl
set_option maxRecDepth 100000 in
theorem m_2072 : Cond.methodLink RX15 129 yX15_goesOn ∈ W0 := w0_in (List.mem_append_right _ (List.mem_of_getElem? (i := 2072) rfl)) rfl
set_option maxRecDepth 100000 in
theorem m_2074 : Cond.instanceMethod yX15_goesOn ∈ W0 := w0_in (List.mem_append_right _ (List.mem_of_getElem? (i := 2074) rfl)) rfl
set_option maxRecDepth 100000 in
theorem m_2075 : Cond.code yX15_goesOn cX15_goesOn 3 (some .boolean) ∈ W0 := w0_in (List.mem_append_right _ (List.mem_of_getElem? (i := 2075) rfl)) rfl
section
variable {p : Program} {l : Launch} {e : Env} {R : Room} {s : State} {m : MethodId} {args : Array Value} {below : List Frame} {meth : Method} {c : Code} {H : Heap} {locs : List Loc} {cells slots : Nat} {Q : State → Prop}
variable {cc : ByteArray} {pc : Nat} {ls : Array Slot} {rest : List Value} {X : Ec} {h h1 : Hp} {nL : Nat} {rt : Option FieldType} {mn : String}
theorem pf_X15_221 {a : Nat} {v : Int32} (C : Cx X p s m args meth c RX15 cc nL rt mn) (hW : Wx X h H) (hZ : va_S (aA (eB X)) s.heap H locs) (ha : hK h a = 14) (eh : h1 = wI h a 10 v) (hdg : decode cc pc = .ok (.putfield 221, 3)) (kk : ∀ (H1 : Heap) (locs1 : List Loc), Wx X h1 H1 → Km h h1 → va_S (aA (eB X)) s.heap H1 locs1 → W p l e R s m args below meth c H1 locs1 cells slots Q (F0 m (pc + 3) ls rest)) : W p l e R s m args below meth c H locs cells slots Q (F0 m pc ls (.int v :: .ref a :: rest)) :=
  y_putiN (ty := .int) C hW hZ ha i_X14 tyX14 tyX14_ok nmX14 (by decide) rfl rfl (by decide) n_1825 rfl (by decide +kernel) rfl rfl rfl eh hdg kk
end
theorem cw_X15_129 : cwd RX15 129 yX15_goesOn cX15_goesOn 3 (some .boolean) false 2 := ⟨m_2075, m_2072, m_19, ⟨m_2074, ms_127⟩, by decide, by decide, by decide +kernel⟩
theorem dX15_isRoyal_0 : decode cX15_isRoyal 0 = .ok (.aload_n 0, 1) := by decide +kernel
theorem dX15_isRoyal_1 : decode cX15_isRoyal 1 = .ok (.aload_n 1, 1) := by decide +kernel
theorem dX15_isRoyal_2 : decode cX15_isRoyal 2 = .ok (.iload_n 2, 1) := by decide +kernel
theorem dX15_isRoyal_3 : decode cX15_isRoyal 3 = .ok (.invokevirtual 74, 3) := by decide +kernel
theorem dX15_isRoyal_6 : decode cX15_isRoyal 6 = .ok (.aload_n 0, 1) := by decide +kernel
theorem dX15_isRoyal_7 : decode cX15_isRoyal 7 = .ok (.aload_n 1, 1) := by decide +kernel
theorem dX15_isRoyal_8 : decode cX15_isRoyal 8 = .ok (.invokevirtual 165, 3) := by decide +kernel
theorem dX15_isRoyal_11 : decode cX15_isRoyal 11 = .ok (.istore_n 3, 1) := by decide +kernel
theorem dX15_isRoyal_12 : decode cX15_isRoyal 12 = .ok (.iload_n 3, 1) := by decide +kernel
theorem dX15_isRoyal_13 : decode cX15_isRoyal 13 = .ok (.iconst (-1), 1) := by decide +kernel
theorem dX15_isRoyal_14 : decode cX15_isRoyal 14 = .ok (.if_icmp .eq 26, 3) := by decide +kernel
theorem dX15_isRoyal_17 : decode cX15_isRoyal 17 = .ok (.aload_n 0, 1) := by decide +kernel
theorem dX15_isRoyal_18 : decode cX15_isRoyal 18 = .ok (.getfield 57, 3) := by decide +kernel
theorem dX15_isRoyal_21 : decode cX15_isRoyal 21 = .ok (.getfield 215, 3) := by decide +kernel
theorem dX15_isRoyal_24 : decode cX15_isRoyal 24 = .ok (.iload_n 3, 1) := by decide +kernel
theorem dX15_isRoyal_25 : decode cX15_isRoyal 25 = .ok (.iaload, 1) := by decide +kernel
theorem dX15_isRoyal_26 : decode cX15_isRoyal 26 = .ok (.ifCond .gt 14, 3) := by decide +kernel
theorem dX15_isRoyal_29 : decode cX15_isRoyal 29 = .ok (.aload_n 0, 1) := by decide +kernel
theorem dX15_isRoyal_30 : decode cX15_isRoyal 30 = .ok (.getfield 57, 3) := by decide +kernel
theorem dX15_isRoyal_33 : decode cX15_isRoyal 33 = .ok (.iload_n 3, 1) := by decide +kernel
theorem dX15_isRoyal_34 : decode cX15_isRoyal 34 = .ok (.invokevirtual 218, 3) := by decide +kernel
theorem dX15_isRoyal_37 : decode cX15_isRoyal 37 = .ok (.ifCond .eq 5, 3) := by decide +kernel
theorem dX15_isRoyal_40 : decode cX15_isRoyal 40 = .ok (.iconst 0, 1) := by decide +kernel
theorem dX15_isRoyal_41 : decode cX15_isRoyal 41 = .ok (.ireturn, 1) := by decide +kernel
theorem dX15_isRoyal_42 : decode cX15_isRoyal 42 = .ok (.aload_n 0, 1) := by decide +kernel
theorem dX15_isRoyal_43 : decode cX15_isRoyal 43 = .ok (.getfield 57, 3) := by decide +kernel
theorem dX15_isRoyal_46 : decode cX15_isRoyal 46 = .ok (.iload_n 3, 1) := by decide +kernel
theorem dX15_isRoyal_47 : decode cX15_isRoyal 47 = .ok (.putfield 221, 3) := by decide +kernel
theorem dX15_isRoyal_50 : decode cX15_isRoyal 50 = .ok (.aload_n 0, 1) := by decide +kernel
theorem dX15_isRoyal_51 : decode cX15_isRoyal 51 = .ok (.aload_n 1, 1) := by decide +kernel
theorem dX15_isRoyal_52 : decode cX15_isRoyal 52 = .ok (.iload_n 2, 1) := by decide +kernel
theorem dX15_isRoyal_53 : decode cX15_isRoyal 53 = .ok (.invokevirtual 129, 3) := by decide +kernel
theorem dX15_isRoyal_56 : decode cX15_isRoyal 56 = .ok (.ireturn, 1) := by decide +kernel
set_option maxRecDepth 20000 in
theorem moX15_isRoyal_40 {o : Int32 × Hp} {F : Nat} {h : Hp} (hE : sX15_isRoyal_40 F h  = some o) : Le h o.2 := by
  exact le_some2 hE
set_option maxRecDepth 20000 in
theorem moX15_isRoyal {o : Int32 × Hp} {F : Nat} {h : Hp} {x0 : Nat} {x1 : Nat} {x2 : Int32} (hE : sX15_isRoyal F h x0 x1 x2 = some o) : Le h o.2 := by
  obtain ⟨o_1, eo_1, hE⟩ := cl_e hE
  refine (moX15_nextToken eo_1).tr ?_
  obtain ⟨o_2, eo_2, hE⟩ := cl_e hE
  refine (moX15_manAt eo_2).tr ?_
  rcases br_e hE with ⟨_, hE⟩ | ⟨_, hE⟩
  · exact moX15_isRoyal_40 hE
  · obtain ⟨r_4, er_4, hE⟩ := cl_e hE
    obtain ⟨r_5, er_5, hE⟩ := cl_e hE
    obtain ⟨g_6, hE⟩ := gd_e hE
    rcases br_e hE with ⟨_, hE⟩ | ⟨_, hE⟩
    · exact moX15_isRoyal_40 hE
    · obtain ⟨r_8, er_8, hE⟩ := cl_e hE
      obtain ⟨o_9, eo_9, hE⟩ := cl_e hE
      refine (moX14_isBecome eo_9).tr ?_
      rcases br_e hE with ⟨_, hE⟩ | ⟨_, hE⟩
      · obtain ⟨r_11, er_11, hE⟩ := cl_e hE
        obtain ⟨h_12, eh_12, hE⟩ := nm_e2 hE
        refine (le_I eh_12).tr ?_
        obtain ⟨o_13, eo_13, hE⟩ := cl_e hE
        refine (moX15_goesOn eo_13).tr ?_
        obtain ⟨g_14, hE⟩ := gd_e hE
        exact le_some2 hE
      · exact moX15_isRoyal_40 hE
set_option maxRecDepth 20000 in
theorem bX15_isRoyal_40 {p : Program} {l : Launch} {e : Env} {s : State} {m : MethodId} {args : Array Value} {below : List Frame} {meth : Method} {c : Code} {X : Ec} {h0 : Hp} {o : Int32 × Hp} {F : Nat} (C : Cx X p s m args meth c RX15 cX15_isRoyal 4 (some .boolean) "isRoyal") {h : Hp} {H : Heap} {locs : List Loc} (hkm : Km h0 h) (hW : Wx X h H) (hZ : va_S (aA (eB X)) s.heap H locs) (ls : Array Slot) (hl : lv_has ls 4 []) (hE : sX15_isRoyal_40 F h  = some o) : W p l e (rm 3 71) s m args below meth c H locs 0 0 (MQ below (QI X h0 o.1 o.2) args s 0 0 (aA (eB X))) (F0 m 40 ls []) := by
  refine lv_iconst (v := (0 : Int32)) C.1 C.2.1 dX15_isRoyal_40 (by decide) ?_
  exact x_iret C rfl (by decide) hW hZ hkm hE dX15_isRoyal_41
set_option maxRecDepth 20000 in
theorem ct_X15_isRoyal (l : Launch) (X : Ec) (F : Nat) {h : Hp} {x0 : Nat} {x1 : Nat} {x2 : Int32} {o : Int32 × Hp} (k_x0 : hK h x0 = 15) (k_x1 : hK h x1 = 16) (hE : sX15_isRoyal F h x0 x1 x2 = some o) : MetI l yX15_isRoyal cX15_isRoyal 4 (some .boolean) 3 71 X [.ref x0, .ref x1, .int x2] h o := by
  refine x_met (by decide) (Nat.le_of_ble_eq_true rfl) ?_
  intro p e s m below meth c ls C hl hW hZ
  have hl : lv_has ls 4 [(0, .ref x0), (1, .ref x1), (2, .int x2)] := hl
  have hkm : Km h h := Km.rf h
  refine lv_aload_n C.1 C.2.1 dX15_isRoyal_0 rfl (lv_at hl 0 rfl) ?_
  refine lv_aload_n C.1 C.2.1 dX15_isRoyal_1 rfl (lv_at hl 1 rfl) ?_
  refine lv_iload_n C.1 C.2.1 dX15_isRoyal_2 rfl (lv_at hl 2 rfl) ?_
  obtain ⟨o_1, eo_1, hE⟩ := cl_e hE
  refine x_kV (o := o_1) (z_runV (As := [.ref x1, .int x2]) (rest := []) C (ct_X15_nextToken l X F k_x0 k_x1 eo_1) cw_X15_74 hW hZ k_x0 (by decide) rfl rfl rfl hl.1 (Nat.le_of_ble_eq_true rfl) rfl dX15_isRoyal_3 ⟨Nat.le_of_ble_eq_true rfl, Nat.le_of_ble_eq_true rfl⟩ ⟨Nat.le_refl _, Nat.le_refl _⟩) hZ (fun _ _ hW km hZ => ?_)
  replace hkm := hkm.tr km
  replace k_x0 := km.at k_x0 (by decide)
  replace k_x1 := km.at k_x1 (by decide)
  refine lv_aload_n C.1 C.2.1 dX15_isRoyal_6 rfl (lv_at hl 0 rfl) ?_
  refine lv_aload_n C.1 C.2.1 dX15_isRoyal_7 rfl (lv_at hl 1 rfl) ?_
  obtain ⟨o_2, eo_2, hE⟩ := cl_e hE
  refine x_kI (o := o_2) (z_runV (As := [.ref x1]) (rest := []) C (ct_X15_manAt l X F k_x0 k_x1 eo_2) cw_X15_165 hW hZ k_x0 (by decide) rfl rfl rfl hl.1 (Nat.le_of_ble_eq_true rfl) rfl dX15_isRoyal_8 ⟨Nat.le_of_ble_eq_true rfl, Nat.le_of_ble_eq_true rfl⟩ ⟨Nat.le_refl _, Nat.le_refl _⟩) hZ (fun _ _ hW km hZ => ?_)
  replace hkm := hkm.tr km
  replace k_x0 := km.at k_x0 (by decide)
  replace k_x1 := km.at k_x1 (by decide)
  refine lv_istore_n (lv' := [(3, .int o_2.1), (0, .ref x0), (1, .ref x1), (2, .int x2)]) C.1 C.2.1 dX15_isRoyal_11 rfl hl (by decide) rfl (fun ls hl => ?_)
  refine lv_iload_n C.1 C.2.1 dX15_isRoyal_12 rfl (lv_at hl 0 rfl) ?_
  refine lv_iconst (v := (-1 : Int32)) C.1 C.2.1 dX15_isRoyal_13 (by decide) ?_
  refine lv_icmp_eq (tgt := 40) C.1 C.2.1 dX15_isRoyal_14 (by decide) (fun c_3 => ?_) (fun c_3 => ?_)
  · have hE := br_p hE c_3
    exact bX15_isRoyal_40 C hkm hW hZ _ (lv_sub hl [] rfl) hE
  · have hE := br_n hE c_3
    refine lv_aload_n C.1 C.2.1 dX15_isRoyal_17 rfl (lv_at hl 1 rfl) ?_
    obtain ⟨r_4, er_4, hE⟩ := cl_e hE
    refine gf_X15_57 C hW k_x0 er_4 dX15_isRoyal_18 (fun k_r_4 => ?_)
    obtain ⟨r_5, er_5, hE⟩ := cl_e hE
    refine gf_X15_215 C hW k_r_4 er_5 dX15_isRoyal_21 (fun k_r_5 => ?_)
    refine lv_iload_n C.1 C.2.1 dX15_isRoyal_24 rfl (lv_at hl 0 rfl) ?_
    obtain ⟨g_6, hE⟩ := gd_e hE
    refine y_iald C hW k_r_5 g_6 dX15_isRoyal_25 ?_
    refine lv_if_gt (tgt := 40) C.1 C.2.1 dX15_isRoyal_26 (by decide) (fun c_7 => ?_) (fun c_7 => ?_)
    · have hE := br_p hE c_7
      exact bX15_isRoyal_40 C hkm hW hZ _ (lv_sub hl [] rfl) hE
    · have hE := br_n hE c_7
      refine lv_aload_n C.1 C.2.1 dX15_isRoyal_29 rfl (lv_at hl 1 rfl) ?_
      obtain ⟨r_8, er_8, hE⟩ := cl_e hE
      refine gf_X15_57 C hW k_x0 er_8 dX15_isRoyal_30 (fun k_r_8 => ?_)
      refine lv_iload_n C.1 C.2.1 dX15_isRoyal_33 rfl (lv_at hl 0 rfl) ?_
      obtain ⟨o_9, eo_9, hE⟩ := cl_e hE
      refine x_kI (o := o_9) (z_runV (As := [.int o_2.1]) (rest := []) C (ct_X14_isBecome l X F k_r_8 eo_9) cw_X15_218 hW hZ k_r_8 (by decide) rfl rfl rfl hl.1 (Nat.le_of_ble_eq_true rfl) rfl dX15_isRoyal_34 ⟨Nat.le_of_ble_eq_true rfl, Nat.le_of_ble_eq_true rfl⟩ ⟨Nat.le_refl _, Nat.le_refl _⟩) hZ (fun _ _ hW km hZ => ?_)
      replace hkm := hkm.tr km
      replace k_x0 := km.at k_x0 (by decide)
      replace k_x1 := km.at k_x1 (by decide)
      refine lv_if_eq (tgt := 42) C.1 C.2.1 dX15_isRoyal_37 (by decide) (fun c_10 => ?_) (fun c_10 => ?_)
      · have hE := br_p hE c_10
        refine lv_aload_n C.1 C.2.1 dX15_isRoyal_42 rfl (lv_at hl 1 rfl) ?_
        obtain ⟨r_11, er_11, hE⟩ := cl_e hE
        refine gf_X15_57 C hW k_x0 er_11 dX15_isRoyal_43 (fun k_r_11 => ?_)
        refine lv_iload_n C.1 C.2.1 dX15_isRoyal_46 rfl (lv_at hl 0 rfl) ?_
        obtain ⟨h_12, eh_12, hE⟩ := nm_e2 hE
        refine pf_X15_221 C hW hZ k_r_11 eh_12 dX15_isRoyal_47 (fun _ _ hW km hZ => ?_)
        replace hkm := hkm.tr km
        replace k_x0 := km.at k_x0 (by decide)
        replace k_x1 := km.at k_x1 (by decide)
        refine lv_aload_n C.1 C.2.1 dX15_isRoyal_50 rfl (lv_at hl 1 rfl) ?_
        refine lv_aload_n C.1 C.2.1 dX15_isRoyal_51 rfl (lv_at hl 2 rfl) ?_
        refine lv_iload_n C.1 C.2.1 dX15_isRoyal_52 rfl (lv_at hl 3 rfl) ?_
        obtain ⟨o_13, eo_13, hE⟩ := cl_e hE
        refine x_kI (o := o_13) (z_runV (As := [.ref x1, .int x2]) (rest := []) C (ct_X15_goesOn l X F k_x0 k_x1 eo_13) cw_X15_129 hW hZ k_x0 (by decide) rfl rfl rfl hl.1 (Nat.le_of_ble_eq_true rfl) rfl dX15_isRoyal_53 ⟨Nat.le_of_ble_eq_true rfl, Nat.le_of_ble_eq_true rfl⟩ ⟨Nat.le_refl _, Nat.le_refl _⟩) hZ (fun _ _ hW km hZ => ?_)
        replace hkm := hkm.tr km
        replace k_x0 := km.at k_x0 (by decide)
        replace k_x1 := km.at k_x1 (by decide)
        obtain ⟨g_14, hE⟩ := gd_e hE
        exact x_iret C rfl (narB g_14) hW hZ hkm hE dX15_isRoyal_56
      · have hE := br_n hE c_10
        exact bX15_isRoyal_40 C hkm hW hZ _ (lv_sub hl [] rfl) hE
set_option maxRecDepth 100000 in
theorem n_1829 : Cond.fieldLinkNest RX15 228 (TX14 12).1 (TX14 12).2.1 (TX14 12).2.2.1 "GameRulesModel" ∈ tables_1 := List.mem_of_getElem? (i := 1829) rfl
section
variable {p : Program} {l : Launch} {e : Env} {R : Room} {s : State} {m : MethodId} {args : Array Value} {below : List Frame} {meth : Method} {c : Code} {H : Heap} {locs : List Loc} {cells slots : Nat} {Q : State → Prop}
variable {cc : ByteArray} {pc : Nat} {ls : Array Slot} {rest : List Value} {X : Ec} {h h1 : Hp} {nL : Nat} {rt : Option FieldType} {mn : String}
theorem pf_X15_228 {a : Nat} {v : Int32} (C : Cx X p s m args meth c RX15 cc nL rt mn) (hW : Wx X h H) (hZ : va_S (aA (eB X)) s.heap H locs) (ha : hK h a = 14) (eh : h1 = wI h a 12 v) (hdg : decode cc pc = .ok (.putfield 228, 3)) (kk : ∀ (H1 : Heap) (locs1 : List Loc), Wx X h1 H1 → Km h h1 → va_S (aA (eB X)) s.heap H1 locs1 → W p l e R s m args below meth c H1 locs1 cells slots Q (F0 m (pc + 3) ls rest)) : W p l e R s m args below meth c H locs cells slots Q (F0 m pc ls (.int v :: .ref a :: rest)) :=
  y_putiN (ty := .int) C hW hZ ha i_X14 tyX14 tyX14_ok nmX14 (by decide) rfl rfl (by decide) n_1829 rfl (by decide +kernel) rfl rfl rfl eh hdg kk
end
theorem dX15_isCastle_0 : decode cX15_isCastle 0 = .ok (.aload_n 0, 1) := by decide +kernel
theorem dX15_isCastle_1 : decode cX15_isCastle 1 = .ok (.getfield 57, 3) := by decide +kernel
theorem dX15_isCastle_4 : decode cX15_isCastle 4 = .ok (.getfield 221, 3) := by decide +kernel
theorem dX15_isCastle_7 : decode cX15_isCastle 7 = .ok (.iconst (-1), 1) := by decide +kernel
theorem dX15_isCastle_8 : decode cX15_isCastle 8 = .ok (.if_icmp .ne 5, 3) := by decide +kernel
theorem dX15_isCastle_11 : decode cX15_isCastle 11 = .ok (.iconst 0, 1) := by decide +kernel
theorem dX15_isCastle_12 : decode cX15_isCastle 12 = .ok (.ireturn, 1) := by decide +kernel
theorem dX15_isCastle_13 : decode cX15_isCastle 13 = .ok (.aload_n 0, 1) := by decide +kernel
theorem dX15_isCastle_14 : decode cX15_isCastle 14 = .ok (.aload_n 1, 1) := by decide +kernel
theorem dX15_isCastle_15 : decode cX15_isCastle 15 = .ok (.iload_n 2, 1) := by decide +kernel
theorem dX15_isCastle_16 : decode cX15_isCastle 16 = .ok (.invokevirtual 74, 3) := by decide +kernel
theorem dX15_isCastle_19 : decode cX15_isCastle 19 = .ok (.aload_n 0, 1) := by decide +kernel
theorem dX15_isCastle_20 : decode cX15_isCastle 20 = .ok (.aload_n 1, 1) := by decide +kernel
theorem dX15_isCastle_21 : decode cX15_isCastle 21 = .ok (.invokevirtual 165, 3) := by decide +kernel
theorem dX15_isCastle_24 : decode cX15_isCastle 24 = .ok (.istore_n 3, 1) := by decide +kernel
theorem dX15_isCastle_25 : decode cX15_isCastle 25 = .ok (.iload_n 3, 1) := by decide +kernel
theorem dX15_isCastle_26 : decode cX15_isCastle 26 = .ok (.iconst (-1), 1) := by decide +kernel
theorem dX15_isCastle_27 : decode cX15_isCastle 27 = .ok (.if_icmp .eq 14, 3) := by decide +kernel
theorem dX15_isCastle_30 : decode cX15_isCastle 30 = .ok (.iload_n 3, 1) := by decide +kernel
theorem dX15_isCastle_31 : decode cX15_isCastle 31 = .ok (.aload_n 0, 1) := by decide +kernel
theorem dX15_isCastle_32 : decode cX15_isCastle 32 = .ok (.getfield 57, 3) := by decide +kernel
theorem dX15_isCastle_35 : decode cX15_isCastle 35 = .ok (.getfield 221, 3) := by decide +kernel
theorem dX15_isCastle_38 : decode cX15_isCastle 38 = .ok (.if_icmp .ne 5, 3) := by decide +kernel
theorem dX15_isCastle_41 : decode cX15_isCastle 41 = .ok (.iconst 0, 1) := by decide +kernel
theorem dX15_isCastle_42 : decode cX15_isCastle 42 = .ok (.ireturn, 1) := by decide +kernel
theorem dX15_isCastle_43 : decode cX15_isCastle 43 = .ok (.aload_n 0, 1) := by decide +kernel
theorem dX15_isCastle_44 : decode cX15_isCastle 44 = .ok (.getfield 57, 3) := by decide +kernel
theorem dX15_isCastle_47 : decode cX15_isCastle 47 = .ok (.iload_n 3, 1) := by decide +kernel
theorem dX15_isCastle_48 : decode cX15_isCastle 48 = .ok (.putfield 228, 3) := by decide +kernel
theorem dX15_isCastle_51 : decode cX15_isCastle 51 = .ok (.aload_n 0, 1) := by decide +kernel
theorem dX15_isCastle_52 : decode cX15_isCastle 52 = .ok (.aload_n 1, 1) := by decide +kernel
theorem dX15_isCastle_53 : decode cX15_isCastle 53 = .ok (.iload_n 2, 1) := by decide +kernel
theorem dX15_isCastle_54 : decode cX15_isCastle 54 = .ok (.invokevirtual 129, 3) := by decide +kernel
theorem dX15_isCastle_57 : decode cX15_isCastle 57 = .ok (.ireturn, 1) := by decide +kernel
set_option maxRecDepth 20000 in
theorem moX15_isCastle_41 {o : Int32 × Hp} {F : Nat} {h : Hp} (hE : sX15_isCastle_41 F h  = some o) : Le h o.2 := by
  exact le_some2 hE
set_option maxRecDepth 20000 in
theorem moX15_isCastle {o : Int32 × Hp} {F : Nat} {h : Hp} {x0 : Nat} {x1 : Nat} {x2 : Int32} (hE : sX15_isCastle F h x0 x1 x2 = some o) : Le h o.2 := by
  obtain ⟨r_1, er_1, hE⟩ := cl_e hE
  rcases br_e hE with ⟨_, hE⟩ | ⟨_, hE⟩
  · exact le_some2 hE
  · obtain ⟨o_3, eo_3, hE⟩ := cl_e hE
    refine (moX15_nextToken eo_3).tr ?_
    obtain ⟨o_4, eo_4, hE⟩ := cl_e hE
    refine (moX15_manAt eo_4).tr ?_
    rcases br_e hE with ⟨_, hE⟩ | ⟨_, hE⟩
    · exact moX15_isCastle_41 hE
    · obtain ⟨r_6, er_6, hE⟩ := cl_e hE
      rcases br_e hE with ⟨_, hE⟩ | ⟨_, hE⟩
      · exact moX15_isCastle_41 hE
      · obtain ⟨r_8, er_8, hE⟩ := cl_e hE
        obtain ⟨h_9, eh_9, hE⟩ := nm_e2 hE
        refine (le_I eh_9).tr ?_
        obtain ⟨o_10, eo_10, hE⟩ := cl_e hE
        refine (moX15_goesOn eo_10).tr ?_
        obtain ⟨g_11, hE⟩ := gd_e hE
        exact le_some2 hE
set_option maxRecDepth 20000 in
theorem bX15_isCastle_41 {p : Program} {l : Launch} {e : Env} {s : State} {m : MethodId} {args : Array Value} {below : List Frame} {meth : Method} {c : Code} {X : Ec} {h0 : Hp} {o : Int32 × Hp} {F : Nat} (C : Cx X p s m args meth c RX15 cX15_isCastle 4 (some .boolean) "isCastle") {h : Hp} {H : Heap} {locs : List Loc} (hkm : Km h0 h) (hW : Wx X h H) (hZ : va_S (aA (eB X)) s.heap H locs) (ls : Array Slot) (hl : lv_has ls 4 []) (hE : sX15_isCastle_41 F h  = some o) : W p l e (rm 3 71) s m args below meth c H locs 0 0 (MQ below (QI X h0 o.1 o.2) args s 0 0 (aA (eB X))) (F0 m 41 ls []) := by
  refine lv_iconst (v := (0 : Int32)) C.1 C.2.1 dX15_isCastle_41 (by decide) ?_
  exact x_iret C rfl (by decide) hW hZ hkm hE dX15_isCastle_42
set_option maxRecDepth 20000 in
theorem ct_X15_isCastle (l : Launch) (X : Ec) (F : Nat) {h : Hp} {x0 : Nat} {x1 : Nat} {x2 : Int32} {o : Int32 × Hp} (k_x0 : hK h x0 = 15) (k_x1 : hK h x1 = 16) (hE : sX15_isCastle F h x0 x1 x2 = some o) : MetI l yX15_isCastle cX15_isCastle 4 (some .boolean) 3 71 X [.ref x0, .ref x1, .int x2] h o := by
  refine x_met (by decide) (Nat.le_of_ble_eq_true rfl) ?_
  intro p e s m below meth c ls C hl hW hZ
  have hl : lv_has ls 4 [(0, .ref x0), (1, .ref x1), (2, .int x2)] := hl
  have hkm : Km h h := Km.rf h
  refine lv_aload_n C.1 C.2.1 dX15_isCastle_0 rfl (lv_at hl 0 rfl) ?_
  obtain ⟨r_1, er_1, hE⟩ := cl_e hE
  refine gf_X15_57 C hW k_x0 er_1 dX15_isCastle_1 (fun k_r_1 => ?_)
  refine gf_X15_221 C hW k_r_1 dX15_isCastle_4 ?_
  refine lv_iconst (v := (-1 : Int32)) C.1 C.2.1 dX15_isCastle_7 (by decide) ?_
  refine lv_icmp_ne (tgt := 13) C.1 C.2.1 dX15_isCastle_8 (by decide) (fun c_2 => ?_) (fun c_2 => ?_)
  · have hE := br_n hE c_2
    refine lv_aload_n C.1 C.2.1 dX15_isCastle_13 rfl (lv_at hl 0 rfl) ?_
    refine lv_aload_n C.1 C.2.1 dX15_isCastle_14 rfl (lv_at hl 1 rfl) ?_
    refine lv_iload_n C.1 C.2.1 dX15_isCastle_15 rfl (lv_at hl 2 rfl) ?_
    obtain ⟨o_3, eo_3, hE⟩ := cl_e hE
    refine x_kV (o := o_3) (z_runV (As := [.ref x1, .int x2]) (rest := []) C (ct_X15_nextToken l X F k_x0 k_x1 eo_3) cw_X15_74 hW hZ k_x0 (by decide) rfl rfl rfl hl.1 (Nat.le_of_ble_eq_true rfl) rfl dX15_isCastle_16 ⟨Nat.le_of_ble_eq_true rfl, Nat.le_of_ble_eq_true rfl⟩ ⟨Nat.le_refl _, Nat.le_refl _⟩) hZ (fun _ _ hW km hZ => ?_)
    replace hkm := hkm.tr km
    replace k_x0 := km.at k_x0 (by decide)
    replace k_x1 := km.at k_x1 (by decide)
    refine lv_aload_n C.1 C.2.1 dX15_isCastle_19 rfl (lv_at hl 0 rfl) ?_
    refine lv_aload_n C.1 C.2.1 dX15_isCastle_20 rfl (lv_at hl 1 rfl) ?_
    obtain ⟨o_4, eo_4, hE⟩ := cl_e hE
    refine x_kI (o := o_4) (z_runV (As := [.ref x1]) (rest := []) C (ct_X15_manAt l X F k_x0 k_x1 eo_4) cw_X15_165 hW hZ k_x0 (by decide) rfl rfl rfl hl.1 (Nat.le_of_ble_eq_true rfl) rfl dX15_isCastle_21 ⟨Nat.le_of_ble_eq_true rfl, Nat.le_of_ble_eq_true rfl⟩ ⟨Nat.le_refl _, Nat.le_refl _⟩) hZ (fun _ _ hW km hZ => ?_)
    replace hkm := hkm.tr km
    replace k_x0 := km.at k_x0 (by decide)
    replace k_x1 := km.at k_x1 (by decide)
    refine lv_istore_n (lv' := [(3, .int o_4.1), (0, .ref x0), (1, .ref x1), (2, .int x2)]) C.1 C.2.1 dX15_isCastle_24 rfl hl (by decide) rfl (fun ls hl => ?_)
    refine lv_iload_n C.1 C.2.1 dX15_isCastle_25 rfl (lv_at hl 0 rfl) ?_
    refine lv_iconst (v := (-1 : Int32)) C.1 C.2.1 dX15_isCastle_26 (by decide) ?_
    refine lv_icmp_eq (tgt := 41) C.1 C.2.1 dX15_isCastle_27 (by decide) (fun c_5 => ?_) (fun c_5 => ?_)
    · have hE := br_p hE c_5
      exact bX15_isCastle_41 C hkm hW hZ _ (lv_sub hl [] rfl) hE
    · have hE := br_n hE c_5
      refine lv_iload_n C.1 C.2.1 dX15_isCastle_30 rfl (lv_at hl 0 rfl) ?_
      refine lv_aload_n C.1 C.2.1 dX15_isCastle_31 rfl (lv_at hl 1 rfl) ?_
      obtain ⟨r_6, er_6, hE⟩ := cl_e hE
      refine gf_X15_57 C hW k_x0 er_6 dX15_isCastle_32 (fun k_r_6 => ?_)
      refine gf_X15_221 C hW k_r_6 dX15_isCastle_35 ?_
      refine lv_icmp_ne (tgt := 43) C.1 C.2.1 dX15_isCastle_38 (by decide) (fun c_7 => ?_) (fun c_7 => ?_)
      · have hE := br_n hE c_7
        refine lv_aload_n C.1 C.2.1 dX15_isCastle_43 rfl (lv_at hl 1 rfl) ?_
        obtain ⟨r_8, er_8, hE⟩ := cl_e hE
        refine gf_X15_57 C hW k_x0 er_8 dX15_isCastle_44 (fun k_r_8 => ?_)
        refine lv_iload_n C.1 C.2.1 dX15_isCastle_47 rfl (lv_at hl 0 rfl) ?_
        obtain ⟨h_9, eh_9, hE⟩ := nm_e2 hE
        refine pf_X15_228 C hW hZ k_r_8 eh_9 dX15_isCastle_48 (fun _ _ hW km hZ => ?_)
        replace hkm := hkm.tr km
        replace k_x0 := km.at k_x0 (by decide)
        replace k_x1 := km.at k_x1 (by decide)
        refine lv_aload_n C.1 C.2.1 dX15_isCastle_51 rfl (lv_at hl 1 rfl) ?_
        refine lv_aload_n C.1 C.2.1 dX15_isCastle_52 rfl (lv_at hl 2 rfl) ?_
        refine lv_iload_n C.1 C.2.1 dX15_isCastle_53 rfl (lv_at hl 3 rfl) ?_
        obtain ⟨o_10, eo_10, hE⟩ := cl_e hE
        refine x_kI (o := o_10) (z_runV (As := [.ref x1, .int x2]) (rest := []) C (ct_X15_goesOn l X F k_x0 k_x1 eo_10) cw_X15_129 hW hZ k_x0 (by decide) rfl rfl rfl hl.1 (Nat.le_of_ble_eq_true rfl) rfl dX15_isCastle_54 ⟨Nat.le_of_ble_eq_true rfl, Nat.le_of_ble_eq_true rfl⟩ ⟨Nat.le_refl _, Nat.le_refl _⟩) hZ (fun _ _ hW km hZ => ?_)
        replace hkm := hkm.tr km
        replace k_x0 := km.at k_x0 (by decide)
        replace k_x1 := km.at k_x1 (by decide)
        obtain ⟨g_11, hE⟩ := gd_e hE
        exact x_iret C rfl (narB g_11) hW hZ hkm hE dX15_isCastle_57
      · have hE := br_p hE c_7
        exact bX15_isCastle_41 C hkm hW hZ _ (lv_sub hl [] rfl) hE
  · have hE := br_p hE c_2
    refine lv_iconst (v := (0 : Int32)) C.1 C.2.1 dX15_isCastle_11 (by decide) ?_
    exact x_iret C rfl (by decide) hW hZ hkm hE dX15_isCastle_12
set_option maxRecDepth 100000 in
theorem n_1843 : Cond.fieldLinkNest RX15 230 (TX14 19).1 (TX14 19).2.1 (TX14 19).2.2.1 "GameRulesModel" ∈ tables_1 := List.mem_of_getElem? (i := 1843) rfl
section
variable {p : Program} {l : Launch} {e : Env} {R : Room} {s : State} {m : MethodId} {args : Array Value} {below : List Frame} {meth : Method} {c : Code} {H : Heap} {locs : List Loc} {cells slots : Nat} {Q : State → Prop}
variable {cc : ByteArray} {pc : Nat} {ls : Array Slot} {rest : List Value} {X : Ec} {h h1 : Hp} {nL : Nat} {rt : Option FieldType} {mn : String}
theorem gf_X15_230 {a : Nat} (C : Cx X p s m args meth c RX15 cc nL rt mn) (hW : Wx X h H) (ha : hK h a = 14) (hdg : decode cc pc = .ok (.getfield 230, 3)) (kk : W p l e R s m args below meth c H locs cells slots Q (F0 m (pc + 3) ls (.int (hI h a 19) :: rest))) : W p l e R s m args below meth c H locs cells slots Q (F0 m pc ls (.ref a :: rest)) :=
  y_getiN C hW ha i_X14 (by decide) rfl (by decide) n_1843 rfl hdg kk
theorem pf_X15_230 {a : Nat} {v : Int32} (C : Cx X p s m args meth c RX15 cc nL rt mn) (hW : Wx X h H) (hZ : va_S (aA (eB X)) s.heap H locs) (ha : hK h a = 14) (eh : h1 = wI h a 19 v) (hdg : decode cc pc = .ok (.putfield 230, 3)) (kk : ∀ (H1 : Heap) (locs1 : List Loc), Wx X h1 H1 → Km h h1 → va_S (aA (eB X)) s.heap H1 locs1 → W p l e R s m args below meth c H1 locs1 cells slots Q (F0 m (pc + 3) ls rest)) : W p l e R s m args below meth c H locs cells slots Q (F0 m pc ls (.int v :: .ref a :: rest)) :=
  y_putiN (ty := .int) C hW hZ ha i_X14 tyX14 tyX14_ok nmX14 (by decide) rfl rfl (by decide) n_1843 rfl (by decide +kernel) rfl rfl rfl eh hdg kk
end
theorem dX15_isBlast_0 : decode cX15_isBlast 0 = .ok (.aload_n 0, 1) := by decide +kernel
theorem dX15_isBlast_1 : decode cX15_isBlast 1 = .ok (.aload_n 1, 1) := by decide +kernel
theorem dX15_isBlast_2 : decode cX15_isBlast 2 = .ok (.iload_n 2, 1) := by decide +kernel
theorem dX15_isBlast_3 : decode cX15_isBlast 3 = .ok (.invokevirtual 74, 3) := by decide +kernel
theorem dX15_isBlast_6 : decode cX15_isBlast 6 = .ok (.aload_n 0, 1) := by decide +kernel
theorem dX15_isBlast_7 : decode cX15_isBlast 7 = .ok (.getfield 34, 3) := by decide +kernel
theorem dX15_isBlast_10 : decode cX15_isBlast 10 = .ok (.iconst 1, 1) := by decide +kernel
theorem dX15_isBlast_11 : decode cX15_isBlast 11 = .ok (.if_icmp .ne 55, 3) := by decide +kernel
theorem dX15_isBlast_14 : decode cX15_isBlast 14 = .ok (.aload_n 0, 1) := by decide +kernel
theorem dX15_isBlast_15 : decode cX15_isBlast 15 = .ok (.aload_n 1, 1) := by decide +kernel
theorem dX15_isBlast_16 : decode cX15_isBlast 16 = .ok (.invokevirtual 165, 3) := by decide +kernel
theorem dX15_isBlast_19 : decode cX15_isBlast 19 = .ok (.istore_n 3, 1) := by decide +kernel
theorem dX15_isBlast_20 : decode cX15_isBlast 20 = .ok (.iload_n 3, 1) := by decide +kernel
theorem dX15_isBlast_21 : decode cX15_isBlast 21 = .ok (.iconst (-1), 1) := by decide +kernel
theorem dX15_isBlast_22 : decode cX15_isBlast 22 = .ok (.if_icmp .eq 18, 3) := by decide +kernel
theorem dX15_isBlast_25 : decode cX15_isBlast 25 = .ok (.aload_n 0, 1) := by decide +kernel
theorem dX15_isBlast_26 : decode cX15_isBlast 26 = .ok (.getfield 57, 3) := by decide +kernel
theorem dX15_isBlast_29 : decode cX15_isBlast 29 = .ok (.getfield 230, 3) := by decide +kernel
theorem dX15_isBlast_32 : decode cX15_isBlast 32 = .ok (.iload_n 3, 1) := by decide +kernel
theorem dX15_isBlast_33 : decode cX15_isBlast 33 = .ok (.ishr, 1) := by decide +kernel
theorem dX15_isBlast_34 : decode cX15_isBlast 34 = .ok (.iconst 1, 1) := by decide +kernel
theorem dX15_isBlast_35 : decode cX15_isBlast 35 = .ok (.iand, 1) := by decide +kernel
theorem dX15_isBlast_36 : decode cX15_isBlast 36 = .ok (.iconst 1, 1) := by decide +kernel
theorem dX15_isBlast_37 : decode cX15_isBlast 37 = .ok (.if_icmp .ne 5, 3) := by decide +kernel
theorem dX15_isBlast_40 : decode cX15_isBlast 40 = .ok (.iconst 0, 1) := by decide +kernel
theorem dX15_isBlast_41 : decode cX15_isBlast 41 = .ok (.ireturn, 1) := by decide +kernel
theorem dX15_isBlast_42 : decode cX15_isBlast 42 = .ok (.aload_n 0, 1) := by decide +kernel
theorem dX15_isBlast_43 : decode cX15_isBlast 43 = .ok (.getfield 57, 3) := by decide +kernel
theorem dX15_isBlast_46 : decode cX15_isBlast 46 = .ok (.dup, 1) := by decide +kernel
theorem dX15_isBlast_47 : decode cX15_isBlast 47 = .ok (.getfield 230, 3) := by decide +kernel
theorem dX15_isBlast_50 : decode cX15_isBlast 50 = .ok (.iconst 1, 1) := by decide +kernel
theorem dX15_isBlast_51 : decode cX15_isBlast 51 = .ok (.iload_n 3, 1) := by decide +kernel
theorem dX15_isBlast_52 : decode cX15_isBlast 52 = .ok (.ishl, 1) := by decide +kernel
theorem dX15_isBlast_53 : decode cX15_isBlast 53 = .ok (.ior, 1) := by decide +kernel
theorem dX15_isBlast_54 : decode cX15_isBlast 54 = .ok (.putfield 230, 3) := by decide +kernel
theorem dX15_isBlast_57 : decode cX15_isBlast 57 = .ok (.aload_n 0, 1) := by decide +kernel
theorem dX15_isBlast_58 : decode cX15_isBlast 58 = .ok (.aload_n 1, 1) := by decide +kernel
theorem dX15_isBlast_59 : decode cX15_isBlast 59 = .ok (.iload_n 2, 1) := by decide +kernel
theorem dX15_isBlast_60 : decode cX15_isBlast 60 = .ok (.invokevirtual 74, 3) := by decide +kernel
theorem dX15_isBlast_63 : decode cX15_isBlast 63 = .ok (.goto (-57), 3) := by decide +kernel
theorem dX15_isBlast_66 : decode cX15_isBlast 66 = .ok (.iconst 1, 1) := by decide +kernel
theorem dX15_isBlast_67 : decode cX15_isBlast 67 = .ok (.ireturn, 1) := by decide +kernel
set_option maxRecDepth 20000 in
theorem moX15_isBlast_40 {o : Int32 × Hp} {F : Nat} {h : Hp} (hE : sX15_isBlast_40 F h  = some o) : Le h o.2 := by
  exact le_some2 hE
set_option maxRecDepth 20000 in
theorem moX15_isBlast_6 {o : Int32 × Hp} {F : Nat} : ∀ (f : Nat) {h : Hp} {x0 : Nat} {x1 : Nat} {x2 : Int32}, sX15_isBlast_6 F f h x0 x1 x2 = some o → Le h o.2 := by
  intro f
  induction f with
  | zero =>
    intro h x0 x1 x2 hE
    rw [sX15_isBlast_6] at hE
    cases hE
  | succ f ih =>
    intro h x0 x1 x2 hE
    rw [sX15_isBlast_6] at hE
    have mk_6 : ∀ (h : Hp) (x0 : Nat) (x1 : Nat) (x2 : Int32), sX15_isBlast_6 F f h x0 x1 x2 = some o → Le h o.2 := fun h x0 x1 x2 hE => ih hE
    rcases br_e hE with ⟨_, hE⟩ | ⟨_, hE⟩
    · obtain ⟨o_2, eo_2, hE⟩ := cl_e hE
      refine (moX15_manAt eo_2).tr ?_
      rcases br_e hE with ⟨_, hE⟩ | ⟨_, hE⟩
      · exact moX15_isBlast_40 hE
      · obtain ⟨r_4, er_4, hE⟩ := cl_e hE
        rcases br_e hE with ⟨_, hE⟩ | ⟨_, hE⟩
        · exact moX15_isBlast_40 hE
        · obtain ⟨r_6, er_6, hE⟩ := cl_e hE
          obtain ⟨h_7, eh_7, hE⟩ := nm_e2 hE
          refine (le_I eh_7).tr ?_
          obtain ⟨o_8, eo_8, hE⟩ := cl_e hE
          refine (moX15_nextToken eo_8).tr ?_
          exact mk_6 _ _ _ _ hE
    · exact le_some2 hE
set_option maxRecDepth 20000 in
theorem moX15_isBlast {o : Int32 × Hp} {F : Nat} {h : Hp} {x0 : Nat} {x1 : Nat} {x2 : Int32} (hE : sX15_isBlast F h x0 x1 x2 = some o) : Le h o.2 := by
  obtain ⟨o_1, eo_1, hE⟩ := cl_e hE
  refine (moX15_nextToken eo_1).tr ?_
  exact moX15_isBlast_6 _ hE
set_option maxRecDepth 20000 in
theorem bX15_isBlast_40 {p : Program} {l : Launch} {e : Env} {s : State} {m : MethodId} {args : Array Value} {below : List Frame} {meth : Method} {c : Code} {X : Ec} {h0 : Hp} {o : Int32 × Hp} {F : Nat} (C : Cx X p s m args meth c RX15 cX15_isBlast 4 (some .boolean) "isBlast") {h : Hp} {H : Heap} {locs : List Loc} (hkm : Km h0 h) (hW : Wx X h H) (hZ : va_S (aA (eB X)) s.heap H locs) (ls : Array Slot) (hl : lv_has ls 4 []) (hE : sX15_isBlast_40 F h  = some o) : W p l e (rm 2 49) s m args below meth c H locs 0 0 (MQ below (QI X h0 o.1 o.2) args s 0 0 (aA (eB X))) (F0 m 40 ls []) := by
  refine lv_iconst (v := (0 : Int32)) C.1 C.2.1 dX15_isBlast_40 (by decide) ?_
  exact x_iret C rfl (by decide) hW hZ hkm hE dX15_isBlast_41
set_option maxRecDepth 20000 in
theorem bX15_isBlast_6 {p : Program} {l : Launch} {e : Env} {s : State} {m : MethodId} {args : Array Value} {below : List Frame} {meth : Method} {c : Code} {X : Ec} {h0 : Hp} {o : Int32 × Hp} {F : Nat} (C : Cx X p s m args meth c RX15 cX15_isBlast 4 (some .boolean) "isBlast") : ∀ (f : Nat) {h : Hp} {x0 : Nat} {x1 : Nat} {x2 : Int32} {H : Heap} {locs : List Loc} (k_x0 : hK h x0 = 15) (k_x1 : hK h x1 = 16), Km h0 h → Wx X h H → va_S (aA (eB X)) s.heap H locs → ∀ (ls : Array Slot), lv_has ls 4 [(0, .ref x0), (1, .ref x1), (2, .int x2)] → sX15_isBlast_6 F f h x0 x1 x2 = some o → W p l e (rm 2 49) s m args below meth c H locs 0 0 (MQ below (QI X h0 o.1 o.2) args s 0 0 (aA (eB X))) (F0 m 6 ls []) := by
  intro f
  induction f with
  | zero =>
    intro h x0 x1 x2 H locs k_x0 k_x1 hkm hW hZ ls hl hE
    rw [sX15_isBlast_6] at hE
    cases hE
  | succ f ih =>
    intro h x0 x1 x2 H locs k_x0 k_x1 hkm hW hZ ls hl hE
    rw [sX15_isBlast_6] at hE
    have hk_6 : ∀ (h : Hp) (x0 : Nat) (x1 : Nat) (x2 : Int32) (H : Heap) (locs : List Loc), hK h x0 = 15 → hK h x1 = 16 → Km h0 h → Wx X h H → va_S (aA (eB X)) s.heap H locs → ∀ (ls : Array Slot), lv_has ls 4 [(0, .ref x0), (1, .ref x1), (2, .int x2)] → sX15_isBlast_6 F f h x0 x1 x2 = some o → W p l e (rm 2 49) s m args below meth c H locs 0 0 (MQ below (QI X h0 o.1 o.2) args s 0 0 (aA (eB X))) (F0 m 6 ls []) := fun h x0 x1 x2 H locs k_x0 k_x1 a b c ls hl hE => ih k_x0 k_x1 a b c ls hl hE
    refine lv_aload_n C.1 C.2.1 dX15_isBlast_6 rfl (lv_at hl 0 rfl) ?_
    refine gf_X15_34 C hW k_x0 dX15_isBlast_7 ?_
    refine lv_iconst (v := (1 : Int32)) C.1 C.2.1 dX15_isBlast_10 (by decide) ?_
    refine lv_icmp_ne (tgt := 66) C.1 C.2.1 dX15_isBlast_11 (by decide) (fun c_1 => ?_) (fun c_1 => ?_)
    · have hE := br_n hE c_1
      refine lv_iconst (v := (1 : Int32)) C.1 C.2.1 dX15_isBlast_66 (by decide) ?_
      exact x_iret C rfl (by decide) hW hZ hkm hE dX15_isBlast_67
    · have hE := br_p hE c_1
      refine lv_aload_n C.1 C.2.1 dX15_isBlast_14 rfl (lv_at hl 0 rfl) ?_
      refine lv_aload_n C.1 C.2.1 dX15_isBlast_15 rfl (lv_at hl 1 rfl) ?_
      obtain ⟨o_2, eo_2, hE⟩ := cl_e hE
      refine x_kI (o := o_2) (z_runV (As := [.ref x1]) (rest := []) C (ct_X15_manAt l X F k_x0 k_x1 eo_2) cw_X15_165 hW hZ k_x0 (by decide) rfl rfl rfl hl.1 (Nat.le_of_ble_eq_true rfl) rfl dX15_isBlast_16 ⟨Nat.le_of_ble_eq_true rfl, Nat.le_of_ble_eq_true rfl⟩ ⟨Nat.le_refl _, Nat.le_refl _⟩) hZ (fun _ _ hW km hZ => ?_)
      replace hkm := hkm.tr km
      replace k_x0 := km.at k_x0 (by decide)
      replace k_x1 := km.at k_x1 (by decide)
      refine lv_istore_n (lv' := [(3, .int o_2.1), (0, .ref x0), (1, .ref x1), (2, .int x2)]) C.1 C.2.1 dX15_isBlast_19 rfl hl (by decide) rfl (fun ls hl => ?_)
      refine lv_iload_n C.1 C.2.1 dX15_isBlast_20 rfl (lv_at hl 0 rfl) ?_
      refine lv_iconst (v := (-1 : Int32)) C.1 C.2.1 dX15_isBlast_21 (by decide) ?_
      refine lv_icmp_eq (tgt := 40) C.1 C.2.1 dX15_isBlast_22 (by decide) (fun c_3 => ?_) (fun c_3 => ?_)
      · have hE := br_p hE c_3
        exact bX15_isBlast_40 C hkm hW hZ _ (lv_sub hl [] rfl) hE
      · have hE := br_n hE c_3
        refine lv_aload_n C.1 C.2.1 dX15_isBlast_25 rfl (lv_at hl 1 rfl) ?_
        obtain ⟨r_4, er_4, hE⟩ := cl_e hE
        refine gf_X15_57 C hW k_x0 er_4 dX15_isBlast_26 (fun k_r_4 => ?_)
        refine gf_X15_230 C hW k_r_4 dX15_isBlast_29 ?_
        refine lv_iload_n C.1 C.2.1 dX15_isBlast_32 rfl (lv_at hl 0 rfl) ?_
        refine lv_ishr C.1 C.2.1 dX15_isBlast_33 ?_
        refine lv_iconst (v := (1 : Int32)) C.1 C.2.1 dX15_isBlast_34 (by decide) ?_
        refine lv_iand C.1 C.2.1 dX15_isBlast_35 ?_
        refine lv_iconst (v := (1 : Int32)) C.1 C.2.1 dX15_isBlast_36 (by decide) ?_
        refine lv_icmp_ne (tgt := 42) C.1 C.2.1 dX15_isBlast_37 (by decide) (fun c_5 => ?_) (fun c_5 => ?_)
        · have hE := br_n hE c_5
          refine lv_aload_n C.1 C.2.1 dX15_isBlast_42 rfl (lv_at hl 1 rfl) ?_
          obtain ⟨r_6, er_6, hE⟩ := cl_e hE
          refine gf_X15_57 C hW k_x0 er_6 dX15_isBlast_43 (fun k_r_6 => ?_)
          refine lv_dup C.1 C.2.1 dX15_isBlast_46 rfl ?_
          refine gf_X15_230 C hW k_r_6 dX15_isBlast_47 ?_
          refine lv_iconst (v := (1 : Int32)) C.1 C.2.1 dX15_isBlast_50 (by decide) ?_
          refine lv_iload_n C.1 C.2.1 dX15_isBlast_51 rfl (lv_at hl 0 rfl) ?_
          refine lv_ishl C.1 C.2.1 dX15_isBlast_52 ?_
          refine lv_ior C.1 C.2.1 dX15_isBlast_53 ?_
          obtain ⟨h_7, eh_7, hE⟩ := nm_e2 hE
          refine pf_X15_230 C hW hZ k_r_6 eh_7 dX15_isBlast_54 (fun _ _ hW km hZ => ?_)
          replace hkm := hkm.tr km
          replace k_x0 := km.at k_x0 (by decide)
          replace k_x1 := km.at k_x1 (by decide)
          refine lv_aload_n C.1 C.2.1 dX15_isBlast_57 rfl (lv_at hl 1 rfl) ?_
          refine lv_aload_n C.1 C.2.1 dX15_isBlast_58 rfl (lv_at hl 2 rfl) ?_
          refine lv_iload_n C.1 C.2.1 dX15_isBlast_59 rfl (lv_at hl 3 rfl) ?_
          obtain ⟨o_8, eo_8, hE⟩ := cl_e hE
          refine x_kV (o := o_8) (z_runV (As := [.ref x1, .int x2]) (rest := []) C (ct_X15_nextToken l X F k_x0 k_x1 eo_8) cw_X15_74 hW hZ k_x0 (by decide) rfl rfl rfl hl.1 (Nat.le_of_ble_eq_true rfl) rfl dX15_isBlast_60 ⟨Nat.le_of_ble_eq_true rfl, Nat.le_of_ble_eq_true rfl⟩ ⟨Nat.le_refl _, Nat.le_refl _⟩) hZ (fun _ _ hW km hZ => ?_)
          replace hkm := hkm.tr km
          replace k_x0 := km.at k_x0 (by decide)
          replace k_x1 := km.at k_x1 (by decide)
          refine lv_goto (tgt := 6) C.1 C.2.1 dX15_isBlast_63 (by decide) ?_
          exact hk_6 _ _ _ _ _ _ k_x0 k_x1 hkm hW hZ _ (lv_sub hl [1, 2, 3] rfl) hE
        · have hE := br_p hE c_5
          exact bX15_isBlast_40 C hkm hW hZ _ (lv_sub hl [] rfl) hE
set_option maxRecDepth 20000 in
theorem ct_X15_isBlast (l : Launch) (X : Ec) (F : Nat) {h : Hp} {x0 : Nat} {x1 : Nat} {x2 : Int32} {o : Int32 × Hp} (k_x0 : hK h x0 = 15) (k_x1 : hK h x1 = 16) (hE : sX15_isBlast F h x0 x1 x2 = some o) : MetI l yX15_isBlast cX15_isBlast 4 (some .boolean) 2 49 X [.ref x0, .ref x1, .int x2] h o := by
  refine x_met (by decide) (Nat.le_of_ble_eq_true rfl) ?_
  intro p e s m below meth c ls C hl hW hZ
  have hl : lv_has ls 4 [(0, .ref x0), (1, .ref x1), (2, .int x2)] := hl
  have hkm : Km h h := Km.rf h
  refine lv_aload_n C.1 C.2.1 dX15_isBlast_0 rfl (lv_at hl 0 rfl) ?_
  refine lv_aload_n C.1 C.2.1 dX15_isBlast_1 rfl (lv_at hl 1 rfl) ?_
  refine lv_iload_n C.1 C.2.1 dX15_isBlast_2 rfl (lv_at hl 2 rfl) ?_
  obtain ⟨o_1, eo_1, hE⟩ := cl_e hE
  refine x_kV (o := o_1) (z_runV (As := [.ref x1, .int x2]) (rest := []) C (ct_X15_nextToken l X F k_x0 k_x1 eo_1) cw_X15_74 hW hZ k_x0 (by decide) rfl rfl rfl hl.1 (Nat.le_of_ble_eq_true rfl) rfl dX15_isBlast_3 ⟨Nat.le_of_ble_eq_true rfl, Nat.le_of_ble_eq_true rfl⟩ ⟨Nat.le_refl _, Nat.le_refl _⟩) hZ (fun _ _ hW km hZ => ?_)
  replace hkm := hkm.tr km
  replace k_x0 := km.at k_x0 (by decide)
  replace k_x1 := km.at k_x1 (by decide)
  exact bX15_isBlast_6 C F k_x0 k_x1 hkm hW hZ _ (lv_sub hl [0, 1, 2] rfl) hE
set_option maxRecDepth 100000 in
theorem n_1845 : Cond.fieldLinkNest RX15 233 (TX14 20).1 (TX14 20).2.1 (TX14 20).2.2.1 "GameRulesModel" ∈ tables_1 := List.mem_of_getElem? (i := 1845) rfl
section
variable {p : Program} {l : Launch} {e : Env} {R : Room} {s : State} {m : MethodId} {args : Array Value} {below : List Frame} {meth : Method} {c : Code} {H : Heap} {locs : List Loc} {cells slots : Nat} {Q : State → Prop}
variable {cc : ByteArray} {pc : Nat} {ls : Array Slot} {rest : List Value} {X : Ec} {h h1 : Hp} {nL : Nat} {rt : Option FieldType} {mn : String}
theorem pf_X15_233 {a : Nat} {v : Int32} (C : Cx X p s m args meth c RX15 cc nL rt mn) (hW : Wx X h H) (hZ : va_S (aA (eB X)) s.heap H locs) (ha : hK h a = 14) (eh : h1 = wI h a 20 v) (hdg : decode cc pc = .ok (.putfield 233, 3)) (kk : ∀ (H1 : Heap) (locs1 : List Loc), Wx X h1 H1 → Km h h1 → va_S (aA (eB X)) s.heap H1 locs1 → W p l e R s m args below meth c H1 locs1 cells slots Q (F0 m (pc + 3) ls rest)) : W p l e R s m args below meth c H locs cells slots Q (F0 m pc ls (.int v :: .ref a :: rest)) :=
  y_putiN (ty := .int) C hW hZ ha i_X14 tyX14 tyX14_ok nmX14 (by decide) rfl rfl (by decide) n_1845 rfl (by decide +kernel) rfl rfl rfl eh hdg kk
end
theorem dX15_isChecks_0 : decode cX15_isChecks 0 = .ok (.aload_n 0, 1) := by decide +kernel
theorem dX15_isChecks_1 : decode cX15_isChecks 1 = .ok (.aload_n 1, 1) := by decide +kernel
theorem dX15_isChecks_2 : decode cX15_isChecks 2 = .ok (.iload_n 2, 1) := by decide +kernel
theorem dX15_isChecks_3 : decode cX15_isChecks 3 = .ok (.invokevirtual 74, 3) := by decide +kernel
theorem dX15_isChecks_6 : decode cX15_isChecks 6 = .ok (.aload_n 0, 1) := by decide +kernel
theorem dX15_isChecks_7 : decode cX15_isChecks 7 = .ok (.iconst 1, 1) := by decide +kernel
theorem dX15_isChecks_8 : decode cX15_isChecks 8 = .ok (.bipush 9, 2) := by decide +kernel
theorem dX15_isChecks_10 : decode cX15_isChecks 10 = .ok (.invokevirtual 84, 3) := by decide +kernel
theorem dX15_isChecks_13 : decode cX15_isChecks 13 = .ok (.ifCond .ne 5, 3) := by decide +kernel
theorem dX15_isChecks_16 : decode cX15_isChecks 16 = .ok (.iconst 0, 1) := by decide +kernel
theorem dX15_isChecks_17 : decode cX15_isChecks 17 = .ok (.ireturn, 1) := by decide +kernel
theorem dX15_isChecks_18 : decode cX15_isChecks 18 = .ok (.aload_n 0, 1) := by decide +kernel
theorem dX15_isChecks_19 : decode cX15_isChecks 19 = .ok (.getfield 57, 3) := by decide +kernel
theorem dX15_isChecks_22 : decode cX15_isChecks 22 = .ok (.aload_n 0, 1) := by decide +kernel
theorem dX15_isChecks_23 : decode cX15_isChecks 23 = .ok (.getfield 44, 3) := by decide +kernel
theorem dX15_isChecks_26 : decode cX15_isChecks 26 = .ok (.putfield 233, 3) := by decide +kernel
theorem dX15_isChecks_29 : decode cX15_isChecks 29 = .ok (.aload_n 0, 1) := by decide +kernel
theorem dX15_isChecks_30 : decode cX15_isChecks 30 = .ok (.aload_n 1, 1) := by decide +kernel
theorem dX15_isChecks_31 : decode cX15_isChecks 31 = .ok (.iload_n 2, 1) := by decide +kernel
theorem dX15_isChecks_32 : decode cX15_isChecks 32 = .ok (.invokevirtual 129, 3) := by decide +kernel
theorem dX15_isChecks_35 : decode cX15_isChecks 35 = .ok (.ireturn, 1) := by decide +kernel
set_option maxRecDepth 20000 in
theorem moX15_isChecks {o : Int32 × Hp} {F : Nat} {h : Hp} {x0 : Nat} {x1 : Nat} {x2 : Int32} (hE : sX15_isChecks F h x0 x1 x2 = some o) : Le h o.2 := by
  obtain ⟨o_1, eo_1, hE⟩ := cl_e hE
  refine (moX15_nextToken eo_1).tr ?_
  obtain ⟨o_2, eo_2, hE⟩ := cl_e hE
  refine (moX15_isNumber eo_2).tr ?_
  rcases br_e hE with ⟨_, hE⟩ | ⟨_, hE⟩
  · exact le_some2 hE
  · obtain ⟨r_4, er_4, hE⟩ := cl_e hE
    obtain ⟨h_5, eh_5, hE⟩ := nm_e2 hE
    refine (le_I eh_5).tr ?_
    obtain ⟨o_6, eo_6, hE⟩ := cl_e hE
    refine (moX15_goesOn eo_6).tr ?_
    obtain ⟨g_7, hE⟩ := gd_e hE
    exact le_some2 hE
set_option maxRecDepth 20000 in
theorem ct_X15_isChecks (l : Launch) (X : Ec) (F : Nat) {h : Hp} {x0 : Nat} {x1 : Nat} {x2 : Int32} {o : Int32 × Hp} (k_x0 : hK h x0 = 15) (k_x1 : hK h x1 = 16) (hE : sX15_isChecks F h x0 x1 x2 = some o) : MetI l yX15_isChecks cX15_isChecks 3 (some .boolean) 3 71 X [.ref x0, .ref x1, .int x2] h o := by
  refine x_met (by decide) (Nat.le_of_ble_eq_true rfl) ?_
  intro p e s m below meth c ls C hl hW hZ
  have hl : lv_has ls 3 [(0, .ref x0), (1, .ref x1), (2, .int x2)] := hl
  have hkm : Km h h := Km.rf h
  refine lv_aload_n C.1 C.2.1 dX15_isChecks_0 rfl (lv_at hl 0 rfl) ?_
  refine lv_aload_n C.1 C.2.1 dX15_isChecks_1 rfl (lv_at hl 1 rfl) ?_
  refine lv_iload_n C.1 C.2.1 dX15_isChecks_2 rfl (lv_at hl 2 rfl) ?_
  obtain ⟨o_1, eo_1, hE⟩ := cl_e hE
  refine x_kV (o := o_1) (z_runV (As := [.ref x1, .int x2]) (rest := []) C (ct_X15_nextToken l X F k_x0 k_x1 eo_1) cw_X15_74 hW hZ k_x0 (by decide) rfl rfl rfl hl.1 (Nat.le_of_ble_eq_true rfl) rfl dX15_isChecks_3 ⟨Nat.le_of_ble_eq_true rfl, Nat.le_of_ble_eq_true rfl⟩ ⟨Nat.le_refl _, Nat.le_refl _⟩) hZ (fun _ _ hW km hZ => ?_)
  replace hkm := hkm.tr km
  replace k_x0 := km.at k_x0 (by decide)
  replace k_x1 := km.at k_x1 (by decide)
  refine lv_aload_n C.1 C.2.1 dX15_isChecks_6 rfl (lv_at hl 0 rfl) ?_
  refine lv_iconst (v := (1 : Int32)) C.1 C.2.1 dX15_isChecks_7 (by decide) ?_
  refine lv_bipush (v := (9 : Int32)) C.1 C.2.1 dX15_isChecks_8 (by decide) ?_
  obtain ⟨o_2, eo_2, hE⟩ := cl_e hE
  refine x_kI (o := o_2) (z_runV (As := [.int (1 : Int32), .int (9 : Int32)]) (rest := []) C (ct_X15_isNumber l X k_x0 eo_2) cw_X15_84 hW hZ k_x0 (by decide) rfl rfl rfl hl.1 (Nat.le_of_ble_eq_true rfl) rfl dX15_isChecks_10 ⟨Nat.le_of_ble_eq_true rfl, Nat.le_of_ble_eq_true rfl⟩ ⟨Nat.le_refl _, Nat.le_refl _⟩) hZ (fun _ _ hW km hZ => ?_)
  replace hkm := hkm.tr km
  replace k_x0 := km.at k_x0 (by decide)
  replace k_x1 := km.at k_x1 (by decide)
  refine lv_if_ne (tgt := 18) C.1 C.2.1 dX15_isChecks_13 (by decide) (fun c_3 => ?_) (fun c_3 => ?_)
  · have hE := br_n hE c_3
    refine lv_aload_n C.1 C.2.1 dX15_isChecks_18 rfl (lv_at hl 0 rfl) ?_
    obtain ⟨r_4, er_4, hE⟩ := cl_e hE
    refine gf_X15_57 C hW k_x0 er_4 dX15_isChecks_19 (fun k_r_4 => ?_)
    refine lv_aload_n C.1 C.2.1 dX15_isChecks_22 rfl (lv_at hl 0 rfl) ?_
    refine gf_X15_44 C hW k_x0 dX15_isChecks_23 ?_
    obtain ⟨h_5, eh_5, hE⟩ := nm_e2 hE
    refine pf_X15_233 C hW hZ k_r_4 eh_5 dX15_isChecks_26 (fun _ _ hW km hZ => ?_)
    replace hkm := hkm.tr km
    replace k_x0 := km.at k_x0 (by decide)
    replace k_x1 := km.at k_x1 (by decide)
    refine lv_aload_n C.1 C.2.1 dX15_isChecks_29 rfl (lv_at hl 0 rfl) ?_
    refine lv_aload_n C.1 C.2.1 dX15_isChecks_30 rfl (lv_at hl 1 rfl) ?_
    refine lv_iload_n C.1 C.2.1 dX15_isChecks_31 rfl (lv_at hl 2 rfl) ?_
    obtain ⟨o_6, eo_6, hE⟩ := cl_e hE
    refine x_kI (o := o_6) (z_runV (As := [.ref x1, .int x2]) (rest := []) C (ct_X15_goesOn l X F k_x0 k_x1 eo_6) cw_X15_129 hW hZ k_x0 (by decide) rfl rfl rfl hl.1 (Nat.le_of_ble_eq_true rfl) rfl dX15_isChecks_32 ⟨Nat.le_of_ble_eq_true rfl, Nat.le_of_ble_eq_true rfl⟩ ⟨Nat.le_refl _, Nat.le_refl _⟩) hZ (fun _ _ hW km hZ => ?_)
    replace hkm := hkm.tr km
    replace k_x0 := km.at k_x0 (by decide)
    replace k_x1 := km.at k_x1 (by decide)
    obtain ⟨g_7, hE⟩ := gd_e hE
    exact x_iret C rfl (narB g_7) hW hZ hkm hE dX15_isChecks_35
  · have hE := br_p hE c_3
    refine lv_iconst (v := (0 : Int32)) C.1 C.2.1 dX15_isChecks_16 (by decide) ?_
    exact x_iret C rfl (by decide) hW hZ hkm hE dX15_isChecks_17
