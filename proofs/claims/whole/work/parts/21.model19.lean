set_option maxRecDepth 100000 in
theorem ms_190 : Cond.selects RX15 yX15_sayWhich yX15_sayWhich ∈ W0 := w0_in (List.mem_append_left _ (List.mem_of_getElem? (i := 190) rfl)) rfl
set_option maxRecDepth 100000 in
theorem m_2147 : Cond.fieldLink RX15 693 (TX15 36).1 (TX15 36).2.1 (TX15 36).2.2.1 ∈ W0 := w0_in (List.mem_append_right _ (List.mem_of_getElem? (i := 2147) rfl)) rfl
set_option maxRecDepth 100000 in
theorem m_2651 : Cond.methodLink RX15 690 yX15_sayWhich ∈ W0 := w0_in (List.mem_append_right _ (List.mem_of_getElem? (i := 2651) rfl)) rfl
set_option maxRecDepth 100000 in
theorem m_2653 : Cond.instanceMethod yX15_sayWhich ∈ W0 := w0_in (List.mem_append_right _ (List.mem_of_getElem? (i := 2653) rfl)) rfl
set_option maxRecDepth 100000 in
theorem m_2654 : Cond.code yX15_sayWhich cX15_sayWhich 7 none ∈ W0 := w0_in (List.mem_append_right _ (List.mem_of_getElem? (i := 2654) rfl)) rfl
section
variable {p : Program} {l : Launch} {e : Env} {R : Room} {s : State} {m : MethodId} {args : Array Value} {below : List Frame} {meth : Method} {c : Code} {H : Heap} {locs : List Loc} {cells slots : Nat} {Q : State → Prop}
variable {cc : ByteArray} {pc : Nat} {ls : Array Slot} {rest : List Value} {X : Ec} {h h1 : Hp} {nL : Nat} {rt : Option FieldType} {mn : String}
theorem gf_X15_305 {a r : Nat} (C : Cx X p s m args meth c RX15 cc nL rt mn) (hW : Wx X h H) (ha : hK h a = 15) (hr : hR h a 35 = some r) (hdg : decode cc pc = .ok (.getfield 305, 3)) (kk : hK h r = 12 → W p l e R s m args below meth c H locs cells slots Q (F0 m (pc + 3) ls (.ref r :: rest))) : W p l e R s m args below meth c H locs cells slots Q (F0 m pc ls (.ref a :: rest)) :=
  y_getr C hW ha i_X15 (by decide) rfl (by decide) m_2146 rfl rfl hr hdg kk
theorem pf_X15_693 {a : Nat} {v : Int32} (C : Cx X p s m args meth c RX15 cc nL rt mn) (hW : Wx X h H) (hZ : va_S (aA (eB X)) s.heap H locs) (ha : hK h a = 15) (eh : h1 = wI h a 36 v) (hdg : decode cc pc = .ok (.putfield 693, 3)) (kk : ∀ (H1 : Heap) (locs1 : List Loc), Wx X h1 H1 → Km h h1 → va_S (aA (eB X)) s.heap H1 locs1 → W p l e R s m args below meth c H1 locs1 cells slots Q (F0 m (pc + 3) ls rest)) : W p l e R s m args below meth c H locs cells slots Q (F0 m pc ls (.int v :: .ref a :: rest)) :=
  y_puti (ty := .int) C hW hZ ha i_X15 tyX15 tyX15_ok nmX15 (by decide) rfl rfl (by decide) m_2147 rfl (by decide +kernel) rfl rfl rfl eh hdg kk
end
theorem cw_X15_690 : cwd RX15 690 yX15_sayWhich cX15_sayWhich 7 none false 1 := ⟨m_2654, m_2651, m_19, ⟨m_2653, ms_190⟩, by decide, by decide, by decide +kernel⟩
theorem dX15_sayMove_0 : decode cX15_sayMove 0 = .ok (.aload_n 0, 1) := by decide +kernel
theorem dX15_sayMove_1 : decode cX15_sayMove 1 = .ok (.iconst 0, 1) := by decide +kernel
theorem dX15_sayMove_2 : decode cX15_sayMove 2 = .ok (.putfield 11, 3) := by decide +kernel
theorem dX15_sayMove_5 : decode cX15_sayMove 5 = .ok (.aload_n 0, 1) := by decide +kernel
theorem dX15_sayMove_6 : decode cX15_sayMove 6 = .ok (.getfield 288, 3) := by decide +kernel
theorem dX15_sayMove_9 : decode cX15_sayMove 9 = .ok (.getfield 598, 3) := by decide +kernel
theorem dX15_sayMove_12 : decode cX15_sayMove 12 = .ok (.iload_n 2, 1) := by decide +kernel
theorem dX15_sayMove_13 : decode cX15_sayMove 13 = .ok (.iaload, 1) := by decide +kernel
theorem dX15_sayMove_14 : decode cX15_sayMove 14 = .ok (.istore_n 3, 1) := by decide +kernel
theorem dX15_sayMove_15 : decode cX15_sayMove 15 = .ok (.aload_n 0, 1) := by decide +kernel
theorem dX15_sayMove_16 : decode cX15_sayMove 16 = .ok (.getfield 288, 3) := by decide +kernel
theorem dX15_sayMove_19 : decode cX15_sayMove 19 = .ok (.getfield 602, 3) := by decide +kernel
theorem dX15_sayMove_22 : decode cX15_sayMove 22 = .ok (.iload_n 2, 1) := by decide +kernel
theorem dX15_sayMove_23 : decode cX15_sayMove 23 = .ok (.iaload, 1) := by decide +kernel
theorem dX15_sayMove_24 : decode cX15_sayMove 24 = .ok (.istore 4, 2) := by decide +kernel
theorem dX15_sayMove_26 : decode cX15_sayMove 26 = .ok (.iload 4, 2) := by decide +kernel
theorem dX15_sayMove_28 : decode cX15_sayMove 28 = .ok (.iconst 2, 1) := by decide +kernel
theorem dX15_sayMove_29 : decode cX15_sayMove 29 = .ok (.if_icmp .ne 67, 3) := by decide +kernel
theorem dX15_sayMove_32 : decode cX15_sayMove 32 = .ok (.aload_n 0, 1) := by decide +kernel
theorem dX15_sayMove_33 : decode cX15_sayMove 33 = .ok (.bipush 79, 2) := by decide +kernel
theorem dX15_sayMove_35 : decode cX15_sayMove 35 = .ok (.invokevirtual 21, 3) := by decide +kernel
theorem dX15_sayMove_38 : decode cX15_sayMove 38 = .ok (.aload_n 0, 1) := by decide +kernel
theorem dX15_sayMove_39 : decode cX15_sayMove 39 = .ok (.bipush 45, 2) := by decide +kernel
theorem dX15_sayMove_41 : decode cX15_sayMove 41 = .ok (.invokevirtual 21, 3) := by decide +kernel
theorem dX15_sayMove_44 : decode cX15_sayMove 44 = .ok (.aload_n 0, 1) := by decide +kernel
theorem dX15_sayMove_45 : decode cX15_sayMove 45 = .ok (.bipush 79, 2) := by decide +kernel
theorem dX15_sayMove_47 : decode cX15_sayMove 47 = .ok (.invokevirtual 21, 3) := by decide +kernel
theorem dX15_sayMove_50 : decode cX15_sayMove 50 = .ok (.aload_n 0, 1) := by decide +kernel
theorem dX15_sayMove_51 : decode cX15_sayMove 51 = .ok (.getfield 288, 3) := by decide +kernel
theorem dX15_sayMove_54 : decode cX15_sayMove 54 = .ok (.getfield 619, 3) := by decide +kernel
theorem dX15_sayMove_57 : decode cX15_sayMove 57 = .ok (.iload_n 2, 1) := by decide +kernel
theorem dX15_sayMove_58 : decode cX15_sayMove 58 = .ok (.iaload, 1) := by decide +kernel
theorem dX15_sayMove_59 : decode cX15_sayMove 59 = .ok (.aload_n 0, 1) := by decide +kernel
theorem dX15_sayMove_60 : decode cX15_sayMove 60 = .ok (.getfield 382, 3) := by decide +kernel
theorem dX15_sayMove_63 : decode cX15_sayMove 63 = .ok (.irem, 1) := by decide +kernel
theorem dX15_sayMove_64 : decode cX15_sayMove 64 = .ok (.aload_n 0, 1) := by decide +kernel
theorem dX15_sayMove_65 : decode cX15_sayMove 65 = .ok (.getfield 288, 3) := by decide +kernel
theorem dX15_sayMove_68 : decode cX15_sayMove 68 = .ok (.getfield 597, 3) := by decide +kernel
theorem dX15_sayMove_71 : decode cX15_sayMove 71 = .ok (.iload_n 2, 1) := by decide +kernel
theorem dX15_sayMove_72 : decode cX15_sayMove 72 = .ok (.iaload, 1) := by decide +kernel
theorem dX15_sayMove_73 : decode cX15_sayMove 73 = .ok (.aload_n 0, 1) := by decide +kernel
theorem dX15_sayMove_74 : decode cX15_sayMove 74 = .ok (.getfield 382, 3) := by decide +kernel
theorem dX15_sayMove_77 : decode cX15_sayMove 77 = .ok (.irem, 1) := by decide +kernel
theorem dX15_sayMove_78 : decode cX15_sayMove 78 = .ok (.if_icmp .ge 177, 3) := by decide +kernel
theorem dX15_sayMove_81 : decode cX15_sayMove 81 = .ok (.aload_n 0, 1) := by decide +kernel
theorem dX15_sayMove_82 : decode cX15_sayMove 82 = .ok (.bipush 45, 2) := by decide +kernel
theorem dX15_sayMove_84 : decode cX15_sayMove 84 = .ok (.invokevirtual 21, 3) := by decide +kernel
theorem dX15_sayMove_87 : decode cX15_sayMove 87 = .ok (.aload_n 0, 1) := by decide +kernel
theorem dX15_sayMove_88 : decode cX15_sayMove 88 = .ok (.bipush 79, 2) := by decide +kernel
theorem dX15_sayMove_90 : decode cX15_sayMove 90 = .ok (.invokevirtual 21, 3) := by decide +kernel
theorem dX15_sayMove_93 : decode cX15_sayMove 93 = .ok (.goto 162, 3) := by decide +kernel
theorem dX15_sayMove_96 : decode cX15_sayMove 96 = .ok (.iload 4, 2) := by decide +kernel
theorem dX15_sayMove_98 : decode cX15_sayMove 98 = .ok (.iconst 3, 1) := by decide +kernel
theorem dX15_sayMove_99 : decode cX15_sayMove 99 = .ok (.if_icmp .ne 41, 3) := by decide +kernel
theorem dX15_sayMove_102 : decode cX15_sayMove 102 = .ok (.aload_n 0, 1) := by decide +kernel
theorem dX15_sayMove_103 : decode cX15_sayMove 103 = .ok (.aload_n 0, 1) := by decide +kernel
theorem dX15_sayMove_104 : decode cX15_sayMove 104 = .ok (.getfield 252, 3) := by decide +kernel
theorem dX15_sayMove_107 : decode cX15_sayMove 107 = .ok (.getfield 172, 3) := by decide +kernel
theorem dX15_sayMove_110 : decode cX15_sayMove 110 = .ok (.aload_n 0, 1) := by decide +kernel
theorem dX15_sayMove_111 : decode cX15_sayMove 111 = .ok (.getfield 288, 3) := by decide +kernel
theorem dX15_sayMove_114 : decode cX15_sayMove 114 = .ok (.getfield 600, 3) := by decide +kernel
theorem dX15_sayMove_117 : decode cX15_sayMove 117 = .ok (.iload_n 2, 1) := by decide +kernel
theorem dX15_sayMove_118 : decode cX15_sayMove 118 = .ok (.iaload, 1) := by decide +kernel
theorem dX15_sayMove_119 : decode cX15_sayMove 119 = .ok (.iaload, 1) := by decide +kernel
theorem dX15_sayMove_120 : decode cX15_sayMove 120 = .ok (.bipush 32, 2) := by decide +kernel
theorem dX15_sayMove_122 : decode cX15_sayMove 122 = .ok (.isub, 1) := by decide +kernel
theorem dX15_sayMove_123 : decode cX15_sayMove 123 = .ok (.invokevirtual 21, 3) := by decide +kernel
theorem dX15_sayMove_126 : decode cX15_sayMove 126 = .ok (.aload_n 0, 1) := by decide +kernel
theorem dX15_sayMove_127 : decode cX15_sayMove 127 = .ok (.bipush 64, 2) := by decide +kernel
theorem dX15_sayMove_129 : decode cX15_sayMove 129 = .ok (.invokevirtual 21, 3) := by decide +kernel
theorem dX15_sayMove_132 : decode cX15_sayMove 132 = .ok (.aload_n 0, 1) := by decide +kernel
theorem dX15_sayMove_133 : decode cX15_sayMove 133 = .ok (.iload_n 3, 1) := by decide +kernel
theorem dX15_sayMove_134 : decode cX15_sayMove 134 = .ok (.invokevirtual 539, 3) := by decide +kernel
theorem dX15_sayMove_137 : decode cX15_sayMove 137 = .ok (.goto 118, 3) := by decide +kernel
theorem dX15_sayMove_140 : decode cX15_sayMove 140 = .ok (.aload_n 0, 1) := by decide +kernel
theorem dX15_sayMove_141 : decode cX15_sayMove 141 = .ok (.getfield 288, 3) := by decide +kernel
theorem dX15_sayMove_144 : decode cX15_sayMove 144 = .ok (.getfield 600, 3) := by decide +kernel
theorem dX15_sayMove_147 : decode cX15_sayMove 147 = .ok (.iload_n 2, 1) := by decide +kernel
theorem dX15_sayMove_148 : decode cX15_sayMove 148 = .ok (.iaload, 1) := by decide +kernel
theorem dX15_sayMove_149 : decode cX15_sayMove 149 = .ok (.aload_n 0, 1) := by decide +kernel
theorem dX15_sayMove_150 : decode cX15_sayMove 150 = .ok (.getfield 252, 3) := by decide +kernel
theorem dX15_sayMove_153 : decode cX15_sayMove 153 = .ok (.getfield 225, 3) := by decide +kernel
theorem dX15_sayMove_156 : decode cX15_sayMove 156 = .ok (.if_icmp .eq 27, 3) := by decide +kernel
theorem dX15_sayMove_159 : decode cX15_sayMove 159 = .ok (.aload_n 0, 1) := by decide +kernel
theorem dX15_sayMove_160 : decode cX15_sayMove 160 = .ok (.aload_n 0, 1) := by decide +kernel
theorem dX15_sayMove_161 : decode cX15_sayMove 161 = .ok (.getfield 252, 3) := by decide +kernel
theorem dX15_sayMove_164 : decode cX15_sayMove 164 = .ok (.getfield 172, 3) := by decide +kernel
theorem dX15_sayMove_167 : decode cX15_sayMove 167 = .ok (.aload_n 0, 1) := by decide +kernel
theorem dX15_sayMove_168 : decode cX15_sayMove 168 = .ok (.getfield 288, 3) := by decide +kernel
theorem dX15_sayMove_171 : decode cX15_sayMove 171 = .ok (.getfield 600, 3) := by decide +kernel
theorem dX15_sayMove_174 : decode cX15_sayMove 174 = .ok (.iload_n 2, 1) := by decide +kernel
theorem dX15_sayMove_175 : decode cX15_sayMove 175 = .ok (.iaload, 1) := by decide +kernel
theorem dX15_sayMove_176 : decode cX15_sayMove 176 = .ok (.iaload, 1) := by decide +kernel
theorem dX15_sayMove_177 : decode cX15_sayMove 177 = .ok (.bipush 32, 2) := by decide +kernel
theorem dX15_sayMove_179 : decode cX15_sayMove 179 = .ok (.isub, 1) := by decide +kernel
theorem dX15_sayMove_180 : decode cX15_sayMove 180 = .ok (.invokevirtual 21, 3) := by decide +kernel
theorem dX15_sayMove_183 : decode cX15_sayMove 183 = .ok (.aload_n 0, 1) := by decide +kernel
theorem dX15_sayMove_184 : decode cX15_sayMove 184 = .ok (.iload_n 2, 1) := by decide +kernel
theorem dX15_sayMove_185 : decode cX15_sayMove 185 = .ok (.invokevirtual 690, 3) := by decide +kernel
theorem dX15_sayMove_188 : decode cX15_sayMove 188 = .ok (.aload_n 0, 1) := by decide +kernel
theorem dX15_sayMove_189 : decode cX15_sayMove 189 = .ok (.getfield 288, 3) := by decide +kernel
theorem dX15_sayMove_192 : decode cX15_sayMove 192 = .ok (.getfield 605, 3) := by decide +kernel
theorem dX15_sayMove_195 : decode cX15_sayMove 195 = .ok (.iload_n 2, 1) := by decide +kernel
theorem dX15_sayMove_196 : decode cX15_sayMove 196 = .ok (.iaload, 1) := by decide +kernel
theorem dX15_sayMove_197 : decode cX15_sayMove 197 = .ok (.iconst (-1), 1) := by decide +kernel
theorem dX15_sayMove_198 : decode cX15_sayMove 198 = .ok (.if_icmp .eq 9, 3) := by decide +kernel
theorem dX15_sayMove_201 : decode cX15_sayMove 201 = .ok (.aload_n 0, 1) := by decide +kernel
theorem dX15_sayMove_202 : decode cX15_sayMove 202 = .ok (.bipush 120, 2) := by decide +kernel
theorem dX15_sayMove_204 : decode cX15_sayMove 204 = .ok (.invokevirtual 21, 3) := by decide +kernel
theorem dX15_sayMove_207 : decode cX15_sayMove 207 = .ok (.aload_n 0, 1) := by decide +kernel
theorem dX15_sayMove_208 : decode cX15_sayMove 208 = .ok (.iload_n 3, 1) := by decide +kernel
theorem dX15_sayMove_209 : decode cX15_sayMove 209 = .ok (.invokevirtual 539, 3) := by decide +kernel
theorem dX15_sayMove_212 : decode cX15_sayMove 212 = .ok (.aload_n 0, 1) := by decide +kernel
theorem dX15_sayMove_213 : decode cX15_sayMove 213 = .ok (.getfield 288, 3) := by decide +kernel
theorem dX15_sayMove_216 : decode cX15_sayMove 216 = .ok (.getfield 612, 3) := by decide +kernel
theorem dX15_sayMove_219 : decode cX15_sayMove 219 = .ok (.iload_n 2, 1) := by decide +kernel
theorem dX15_sayMove_220 : decode cX15_sayMove 220 = .ok (.iaload, 1) := by decide +kernel
theorem dX15_sayMove_221 : decode cX15_sayMove 221 = .ok (.iconst (-1), 1) := by decide +kernel
theorem dX15_sayMove_222 : decode cX15_sayMove 222 = .ok (.if_icmp .eq 33, 3) := by decide +kernel
theorem dX15_sayMove_225 : decode cX15_sayMove 225 = .ok (.aload_n 0, 1) := by decide +kernel
theorem dX15_sayMove_226 : decode cX15_sayMove 226 = .ok (.bipush 61, 2) := by decide +kernel
theorem dX15_sayMove_228 : decode cX15_sayMove 228 = .ok (.invokevirtual 21, 3) := by decide +kernel
theorem dX15_sayMove_231 : decode cX15_sayMove 231 = .ok (.aload_n 0, 1) := by decide +kernel
theorem dX15_sayMove_232 : decode cX15_sayMove 232 = .ok (.aload_n 0, 1) := by decide +kernel
theorem dX15_sayMove_233 : decode cX15_sayMove 233 = .ok (.getfield 252, 3) := by decide +kernel
theorem dX15_sayMove_236 : decode cX15_sayMove 236 = .ok (.getfield 172, 3) := by decide +kernel
theorem dX15_sayMove_239 : decode cX15_sayMove 239 = .ok (.aload_n 0, 1) := by decide +kernel
theorem dX15_sayMove_240 : decode cX15_sayMove 240 = .ok (.getfield 288, 3) := by decide +kernel
theorem dX15_sayMove_243 : decode cX15_sayMove 243 = .ok (.getfield 612, 3) := by decide +kernel
theorem dX15_sayMove_246 : decode cX15_sayMove 246 = .ok (.iload_n 2, 1) := by decide +kernel
theorem dX15_sayMove_247 : decode cX15_sayMove 247 = .ok (.iaload, 1) := by decide +kernel
theorem dX15_sayMove_248 : decode cX15_sayMove 248 = .ok (.iaload, 1) := by decide +kernel
theorem dX15_sayMove_249 : decode cX15_sayMove 249 = .ok (.bipush 32, 2) := by decide +kernel
theorem dX15_sayMove_251 : decode cX15_sayMove 251 = .ok (.isub, 1) := by decide +kernel
theorem dX15_sayMove_252 : decode cX15_sayMove 252 = .ok (.invokevirtual 21, 3) := by decide +kernel
theorem dX15_sayMove_255 : decode cX15_sayMove 255 = .ok (.aload_n 0, 1) := by decide +kernel
theorem dX15_sayMove_256 : decode cX15_sayMove 256 = .ok (.aload_n 0, 1) := by decide +kernel
theorem dX15_sayMove_257 : decode cX15_sayMove 257 = .ok (.getfield 11, 3) := by decide +kernel
theorem dX15_sayMove_260 : decode cX15_sayMove 260 = .ok (.putfield 693, 3) := by decide +kernel
theorem dX15_sayMove_263 : decode cX15_sayMove 263 = .ok (.aload_n 0, 1) := by decide +kernel
theorem dX15_sayMove_264 : decode cX15_sayMove 264 = .ok (.aload_n 1, 1) := by decide +kernel
theorem dX15_sayMove_265 : decode cX15_sayMove 265 = .ok (.aload_n 0, 1) := by decide +kernel
theorem dX15_sayMove_266 : decode cX15_sayMove 266 = .ok (.getfield 288, 3) := by decide +kernel
theorem dX15_sayMove_269 : decode cX15_sayMove 269 = .ok (.iload_n 2, 1) := by decide +kernel
theorem dX15_sayMove_270 : decode cX15_sayMove 270 = .ok (.aload_n 0, 1) := by decide +kernel
theorem dX15_sayMove_271 : decode cX15_sayMove 271 = .ok (.getfield 305, 3) := by decide +kernel
theorem dX15_sayMove_274 : decode cX15_sayMove 274 = .ok (.invokevirtual 627, 3) := by decide +kernel
theorem dX15_sayMove_277 : decode cX15_sayMove 277 = .ok (.aload_n 0, 1) := by decide +kernel
theorem dX15_sayMove_278 : decode cX15_sayMove 278 = .ok (.aload_n 0, 1) := by decide +kernel
theorem dX15_sayMove_279 : decode cX15_sayMove 279 = .ok (.getfield 305, 3) := by decide +kernel
theorem dX15_sayMove_282 : decode cX15_sayMove 282 = .ok (.aload_n 0, 1) := by decide +kernel
theorem dX15_sayMove_283 : decode cX15_sayMove 283 = .ok (.getfield 292, 3) := by decide +kernel
theorem dX15_sayMove_286 : decode cX15_sayMove 286 = .ok (.invokevirtual 652, 3) := by decide +kernel
theorem dX15_sayMove_289 : decode cX15_sayMove 289 = .ok (.aload_n 0, 1) := by decide +kernel
theorem dX15_sayMove_290 : decode cX15_sayMove 290 = .ok (.aload_n 0, 1) := by decide +kernel
theorem dX15_sayMove_291 : decode cX15_sayMove 291 = .ok (.getfield 305, 3) := by decide +kernel
theorem dX15_sayMove_294 : decode cX15_sayMove 294 = .ok (.aload_n 0, 1) := by decide +kernel
theorem dX15_sayMove_295 : decode cX15_sayMove 295 = .ok (.getfield 305, 3) := by decide +kernel
theorem dX15_sayMove_298 : decode cX15_sayMove 298 = .ok (.getfield 452, 3) := by decide +kernel
theorem dX15_sayMove_301 : decode cX15_sayMove 301 = .ok (.invokevirtual 508, 3) := by decide +kernel
theorem dX15_sayMove_304 : decode cX15_sayMove 304 = .ok (.istore 5, 2) := by decide +kernel
theorem dX15_sayMove_306 : decode cX15_sayMove 306 = .ok (.aload_n 0, 1) := by decide +kernel
theorem dX15_sayMove_307 : decode cX15_sayMove 307 = .ok (.aload_n 0, 1) := by decide +kernel
theorem dX15_sayMove_308 : decode cX15_sayMove 308 = .ok (.getfield 305, 3) := by decide +kernel
theorem dX15_sayMove_311 : decode cX15_sayMove 311 = .ok (.aload_n 0, 1) := by decide +kernel
theorem dX15_sayMove_312 : decode cX15_sayMove 312 = .ok (.getfield 292, 3) := by decide +kernel
theorem dX15_sayMove_315 : decode cX15_sayMove 315 = .ok (.getfield 575, 3) := by decide +kernel
theorem dX15_sayMove_318 : decode cX15_sayMove 318 = .ok (.invokevirtual 683, 3) := by decide +kernel
theorem dX15_sayMove_321 : decode cX15_sayMove 321 = .ok (.ifCond .le 23, 3) := by decide +kernel
theorem dX15_sayMove_324 : decode cX15_sayMove 324 = .ok (.aload_n 0, 1) := by decide +kernel
theorem dX15_sayMove_325 : decode cX15_sayMove 325 = .ok (.getfield 646, 3) := by decide +kernel
theorem dX15_sayMove_328 : decode cX15_sayMove 328 = .ok (.aload_n 1, 1) := by decide +kernel
theorem dX15_sayMove_329 : decode cX15_sayMove 329 = .ok (.getfield 452, 3) := by decide +kernel
theorem dX15_sayMove_332 : decode cX15_sayMove 332 = .ok (.if_icmp .ne 12, 3) := by decide +kernel
theorem dX15_sayMove_335 : decode cX15_sayMove 335 = .ok (.aload_n 0, 1) := by decide +kernel
theorem dX15_sayMove_336 : decode cX15_sayMove 336 = .ok (.bipush 35, 2) := by decide +kernel
theorem dX15_sayMove_338 : decode cX15_sayMove 338 = .ok (.invokevirtual 21, 3) := by decide +kernel
theorem dX15_sayMove_341 : decode cX15_sayMove 341 = .ok (.goto 32, 3) := by decide +kernel
theorem dX15_sayMove_344 : decode cX15_sayMove 344 = .ok (.iload 5, 2) := by decide +kernel
theorem dX15_sayMove_346 : decode cX15_sayMove 346 = .ok (.iconst (-1), 1) := by decide +kernel
theorem dX15_sayMove_347 : decode cX15_sayMove 347 = .ok (.if_icmp .eq 26, 3) := by decide +kernel
theorem dX15_sayMove_350 : decode cX15_sayMove 350 = .ok (.aload_n 0, 1) := by decide +kernel
theorem dX15_sayMove_351 : decode cX15_sayMove 351 = .ok (.aload_n 0, 1) := by decide +kernel
theorem dX15_sayMove_352 : decode cX15_sayMove 352 = .ok (.getfield 305, 3) := by decide +kernel
theorem dX15_sayMove_355 : decode cX15_sayMove 355 = .ok (.iload 5, 2) := by decide +kernel
theorem dX15_sayMove_357 : decode cX15_sayMove 357 = .ok (.aload_n 1, 1) := by decide +kernel
theorem dX15_sayMove_358 : decode cX15_sayMove 358 = .ok (.getfield 452, 3) := by decide +kernel
theorem dX15_sayMove_361 : decode cX15_sayMove 361 = .ok (.invokevirtual 512, 3) := by decide +kernel
theorem dX15_sayMove_364 : decode cX15_sayMove 364 = .ok (.ifCond .eq 9, 3) := by decide +kernel
theorem dX15_sayMove_367 : decode cX15_sayMove 367 = .ok (.aload_n 0, 1) := by decide +kernel
theorem dX15_sayMove_368 : decode cX15_sayMove 368 = .ok (.bipush 43, 2) := by decide +kernel
theorem dX15_sayMove_370 : decode cX15_sayMove 370 = .ok (.invokevirtual 21, 3) := by decide +kernel
theorem dX15_sayMove_373 : decode cX15_sayMove 373 = .ok (.return_, 1) := by decide +kernel
def sX15_sayMove_373 (F : Nat) (h : Hp) : Option (Hp) := some h
def sX15_sayMove_344 (F : Nat) (h : Hp) (x0 : Nat) (x1 : Nat) (x5 : Int32) : Option (Hp) := br (x5 = (-1 : Int32)) (sX15_sayMove_373 F h ) (cl (hR h x0 35) fun r_2 => cl (sX15_isAttacked F h x0 r_2 x5 (hI h x1 1)) fun o_3 => br (o_3.1 = 0) (sX15_sayMove_373 F o_3.2 ) (cl (sX15_say o_3.2 x0 (43 : Int32)) fun o_5 => sX15_sayMove_373 F o_5 ))
def sX15_sayMove_255 (F : Nat) (h : Hp) (x0 : Nat) (x1 : Nat) (x2 : Int32) : Option (Hp) := nm (wI h x0 36 (hI h x0 3)) fun h_1 => cl (hR h_1 x0 30) fun r_2 => cl (hR h_1 x0 35) fun r_3 => cl (sX15_make F h_1 x0 x1 r_2 x2 r_3) fun o_4 => cl (hR o_4 x0 35) fun r_5 => cl (hR o_4 x0 31) fun r_6 => cl (sX15_legal F o_4 x0 r_5 r_6) fun o_7 => cl (hR o_7 x0 35) fun r_8 => cl (hR o_7 x0 35) fun r_9 => cl (sX15_royalOf F o_7 x0 r_8 (hI o_7 r_9 1)) fun o_10 => cl (hR o_10.2 x0 35) fun r_11 => cl (hR o_10.2 x0 31) fun r_12 => cl (sX15_endedBy F o_10.2 x0 r_11 (hI o_10.2 r_12 0)) fun o_13 => br (o_13.1 ≤ 0) (sX15_sayMove_344 F o_13.2 x0 x1 o_10.1) (br ((hI o_13.2 x0 29) = (hI o_13.2 x1 1)) (cl (sX15_say o_13.2 x0 (35 : Int32)) fun o_16 => sX15_sayMove_373 F o_16 ) (sX15_sayMove_344 F o_13.2 x0 x1 o_10.1))
def sX15_sayMove_207 (F : Nat) (h : Hp) (x0 : Nat) (x1 : Nat) (x2 : Int32) (x3 : Int32) : Option (Hp) := cl (sX15_saySquare h x0 x3) fun o_1 => cl (hR o_1 x0 30) fun r_2 => cl (hR o_1 r_2 4) fun r_3 => gd (inB x2 (hN o_1 r_3)) <| br ((hI o_1 r_3 x2.toNatClampNeg) = (-1 : Int32)) (sX15_sayMove_255 F o_1 x0 x1 x2) (cl (sX15_say o_1 x0 (61 : Int32)) fun o_6 => cl (hR o_6 x0 4) fun r_7 => cl (hR o_6 r_7 3) fun r_8 => cl (hR o_6 x0 30) fun r_9 => cl (hR o_6 r_9 4) fun r_10 => gd (inB x2 (hN o_6 r_10)) <| gd (inB (hI o_6 r_10 x2.toNatClampNeg) (hN o_6 r_8)) <| cl (sX15_say o_6 x0 ((hI o_6 r_8 (hI o_6 r_10 x2.toNatClampNeg).toNatClampNeg) - (32 : Int32))) fun o_13 => sX15_sayMove_255 F o_13 x0 x1 x2)
def sX15_sayMove_183 (F : Nat) (h : Hp) (x0 : Nat) (x1 : Nat) (x2 : Int32) (x3 : Int32) : Option (Hp) := cl (sX15_sayWhich F h x0 x2) fun o_1 => cl (hR o_1 x0 30) fun r_2 => cl (hR o_1 r_2 5) fun r_3 => gd (inB x2 (hN o_1 r_3)) <| br ((hI o_1 r_3 x2.toNatClampNeg) = (-1 : Int32)) (sX15_sayMove_207 F o_1 x0 x1 x2 x3) (cl (sX15_say o_1 x0 (120 : Int32)) fun o_6 => sX15_sayMove_207 F o_6 x0 x1 x2 x3)
def sX15_sayMove (F : Nat) (h : Hp) (x0 : Nat) (x1 : Nat) (x2 : Int32) : Option (Hp) := nm (wI h x0 3 (0 : Int32)) fun h_1 => cl (hR h_1 x0 30) fun r_2 => cl (hR h_1 r_2 2) fun r_3 => gd (inB x2 (hN h_1 r_3)) <| nm (hI h_1 r_3 x2.toNatClampNeg) fun v_5 => cl (hR h_1 x0 30) fun r_6 => cl (hR h_1 r_6 6) fun r_7 => gd (inB x2 (hN h_1 r_7)) <| nm (hI h_1 r_7 x2.toNatClampNeg) fun v_9 => br (v_9 = (2 : Int32)) (cl (sX15_say h_1 x0 (79 : Int32)) fun o_33 => cl (sX15_say o_33 x0 (45 : Int32)) fun o_34 => cl (sX15_say o_34 x0 (79 : Int32)) fun o_35 => cl (hR o_35 x0 30) fun r_36 => cl (hR o_35 r_36 7) fun r_37 => gd (inB x2 (hN o_35 r_37)) <| gd (¬ (hI o_35 x0 11) = 0) <| cl (hR o_35 x0 30) fun r_40 => cl (hR o_35 r_40 1) fun r_41 => gd (inB x2 (hN o_35 r_41)) <| gd (¬ (hI o_35 x0 11) = 0) <| br (((hI o_35 r_41 x2.toNatClampNeg) - (hI o_35 r_41 x2.toNatClampNeg) / (hI o_35 x0 11) * (hI o_35 x0 11)) ≤ ((hI o_35 r_37 x2.toNatClampNeg) - (hI o_35 r_37 x2.toNatClampNeg) / (hI o_35 x0 11) * (hI o_35 x0 11))) (sX15_sayMove_255 F o_35 x0 x1 x2) (cl (sX15_say o_35 x0 (45 : Int32)) fun o_45 => cl (sX15_say o_45 x0 (79 : Int32)) fun o_46 => sX15_sayMove_255 F o_46 x0 x1 x2)) (br (v_9 = (3 : Int32)) (cl (hR h_1 x0 4) fun r_24 => cl (hR h_1 r_24 3) fun r_25 => cl (hR h_1 x0 30) fun r_26 => cl (hR h_1 r_26 3) fun r_27 => gd (inB x2 (hN h_1 r_27)) <| gd (inB (hI h_1 r_27 x2.toNatClampNeg) (hN h_1 r_25)) <| cl (sX15_say h_1 x0 ((hI h_1 r_25 (hI h_1 r_27 x2.toNatClampNeg).toNatClampNeg) - (32 : Int32))) fun o_30 => cl (sX15_say o_30 x0 (64 : Int32)) fun o_31 => cl (sX15_saySquare o_31 x0 v_5) fun o_32 => sX15_sayMove_255 F o_32 x0 x1 x2) (cl (hR h_1 x0 30) fun r_12 => cl (hR h_1 r_12 3) fun r_13 => gd (inB x2 (hN h_1 r_13)) <| cl (hR h_1 x0 4) fun r_15 => br ((hI h_1 r_13 x2.toNatClampNeg) = (hI h_1 r_15 11)) (sX15_sayMove_183 F h_1 x0 x1 x2 v_5) (cl (hR h_1 x0 4) fun r_17 => cl (hR h_1 r_17 3) fun r_18 => cl (hR h_1 x0 30) fun r_19 => cl (hR h_1 r_19 3) fun r_20 => gd (inB x2 (hN h_1 r_20)) <| gd (inB (hI h_1 r_20 x2.toNatClampNeg) (hN h_1 r_18)) <| cl (sX15_say h_1 x0 ((hI h_1 r_18 (hI h_1 r_20 x2.toNatClampNeg).toNatClampNeg) - (32 : Int32))) fun o_23 => sX15_sayMove_183 F o_23 x0 x1 x2 v_5)))
set_option maxRecDepth 20000 in
theorem moX15_sayMove_373 {o : Hp} {F : Nat} {h : Hp} (hE : sX15_sayMove_373 F h  = some o) : Le h o := by
  exact le_some1 hE
set_option maxRecDepth 20000 in
theorem moX15_sayMove_344 {o : Hp} {F : Nat} {h : Hp} {x0 : Nat} {x1 : Nat} {x5 : Int32} (hE : sX15_sayMove_344 F h x0 x1 x5 = some o) : Le h o := by
  rcases br_e hE with ⟨_, hE⟩ | ⟨_, hE⟩
  · exact moX15_sayMove_373 hE
  · obtain ⟨r_2, er_2, hE⟩ := cl_e hE
    obtain ⟨o_3, eo_3, hE⟩ := cl_e hE
    refine (moX15_isAttacked eo_3).tr ?_
    rcases br_e hE with ⟨_, hE⟩ | ⟨_, hE⟩
    · exact moX15_sayMove_373 hE
    · obtain ⟨o_5, eo_5, hE⟩ := cl_e hE
      refine (moX15_say eo_5).tr ?_
      exact moX15_sayMove_373 hE
set_option maxRecDepth 20000 in
theorem moX15_sayMove_255 {o : Hp} {F : Nat} {h : Hp} {x0 : Nat} {x1 : Nat} {x2 : Int32} (hE : sX15_sayMove_255 F h x0 x1 x2 = some o) : Le h o := by
  obtain ⟨h_1, eh_1, hE⟩ := nm_e2 hE
  refine (le_I eh_1).tr ?_
  obtain ⟨r_2, er_2, hE⟩ := cl_e hE
  obtain ⟨r_3, er_3, hE⟩ := cl_e hE
  obtain ⟨o_4, eo_4, hE⟩ := cl_e hE
  refine (moX15_make eo_4).tr ?_
  obtain ⟨r_5, er_5, hE⟩ := cl_e hE
  obtain ⟨r_6, er_6, hE⟩ := cl_e hE
  obtain ⟨o_7, eo_7, hE⟩ := cl_e hE
  refine (moX15_legal eo_7).tr ?_
  obtain ⟨r_8, er_8, hE⟩ := cl_e hE
  obtain ⟨r_9, er_9, hE⟩ := cl_e hE
  obtain ⟨o_10, eo_10, hE⟩ := cl_e hE
  refine (moX15_royalOf eo_10).tr ?_
  obtain ⟨r_11, er_11, hE⟩ := cl_e hE
  obtain ⟨r_12, er_12, hE⟩ := cl_e hE
  obtain ⟨o_13, eo_13, hE⟩ := cl_e hE
  refine (moX15_endedBy eo_13).tr ?_
  rcases br_e hE with ⟨_, hE⟩ | ⟨_, hE⟩
  · exact moX15_sayMove_344 hE
  · rcases br_e hE with ⟨_, hE⟩ | ⟨_, hE⟩
    · obtain ⟨o_16, eo_16, hE⟩ := cl_e hE
      refine (moX15_say eo_16).tr ?_
      exact moX15_sayMove_373 hE
    · exact moX15_sayMove_344 hE
set_option maxRecDepth 20000 in
theorem moX15_sayMove_207 {o : Hp} {F : Nat} {h : Hp} {x0 : Nat} {x1 : Nat} {x2 : Int32} {x3 : Int32} (hE : sX15_sayMove_207 F h x0 x1 x2 x3 = some o) : Le h o := by
  obtain ⟨o_1, eo_1, hE⟩ := cl_e hE
  refine (moX15_saySquare eo_1).tr ?_
  obtain ⟨r_2, er_2, hE⟩ := cl_e hE
  obtain ⟨r_3, er_3, hE⟩ := cl_e hE
  obtain ⟨g_4, hE⟩ := gd_e hE
  rcases br_e hE with ⟨_, hE⟩ | ⟨_, hE⟩
  · exact moX15_sayMove_255 hE
  · obtain ⟨o_6, eo_6, hE⟩ := cl_e hE
    refine (moX15_say eo_6).tr ?_
    obtain ⟨r_7, er_7, hE⟩ := cl_e hE
    obtain ⟨r_8, er_8, hE⟩ := cl_e hE
    obtain ⟨r_9, er_9, hE⟩ := cl_e hE
    obtain ⟨r_10, er_10, hE⟩ := cl_e hE
    obtain ⟨g_11, hE⟩ := gd_e hE
    obtain ⟨g_12, hE⟩ := gd_e hE
    obtain ⟨o_13, eo_13, hE⟩ := cl_e hE
    refine (moX15_say eo_13).tr ?_
    exact moX15_sayMove_255 hE
set_option maxRecDepth 20000 in
theorem moX15_sayMove_183 {o : Hp} {F : Nat} {h : Hp} {x0 : Nat} {x1 : Nat} {x2 : Int32} {x3 : Int32} (hE : sX15_sayMove_183 F h x0 x1 x2 x3 = some o) : Le h o := by
  obtain ⟨o_1, eo_1, hE⟩ := cl_e hE
  refine (moX15_sayWhich eo_1).tr ?_
  obtain ⟨r_2, er_2, hE⟩ := cl_e hE
  obtain ⟨r_3, er_3, hE⟩ := cl_e hE
  obtain ⟨g_4, hE⟩ := gd_e hE
  rcases br_e hE with ⟨_, hE⟩ | ⟨_, hE⟩
  · exact moX15_sayMove_207 hE
  · obtain ⟨o_6, eo_6, hE⟩ := cl_e hE
    refine (moX15_say eo_6).tr ?_
    exact moX15_sayMove_207 hE
set_option maxRecDepth 20000 in
theorem moX15_sayMove {o : Hp} {F : Nat} {h : Hp} {x0 : Nat} {x1 : Nat} {x2 : Int32} (hE : sX15_sayMove F h x0 x1 x2 = some o) : Le h o := by
  obtain ⟨h_1, eh_1, hE⟩ := nm_e2 hE
  refine (le_I eh_1).tr ?_
  obtain ⟨r_2, er_2, hE⟩ := cl_e hE
  obtain ⟨r_3, er_3, hE⟩ := cl_e hE
  obtain ⟨g_4, hE⟩ := gd_e hE
  obtain ⟨v_5, ev_5, hE⟩ := nm_e2 hE
  obtain ⟨r_6, er_6, hE⟩ := cl_e hE
  obtain ⟨r_7, er_7, hE⟩ := cl_e hE
  obtain ⟨g_8, hE⟩ := gd_e hE
  obtain ⟨v_9, ev_9, hE⟩ := nm_e2 hE
  rcases br_e hE with ⟨_, hE⟩ | ⟨_, hE⟩
  · obtain ⟨o_33, eo_33, hE⟩ := cl_e hE
    refine (moX15_say eo_33).tr ?_
    obtain ⟨o_34, eo_34, hE⟩ := cl_e hE
    refine (moX15_say eo_34).tr ?_
    obtain ⟨o_35, eo_35, hE⟩ := cl_e hE
    refine (moX15_say eo_35).tr ?_
    obtain ⟨r_36, er_36, hE⟩ := cl_e hE
    obtain ⟨r_37, er_37, hE⟩ := cl_e hE
    obtain ⟨g_38, hE⟩ := gd_e hE
    obtain ⟨g_39, hE⟩ := gd_e hE
    obtain ⟨r_40, er_40, hE⟩ := cl_e hE
    obtain ⟨r_41, er_41, hE⟩ := cl_e hE
    obtain ⟨g_42, hE⟩ := gd_e hE
    obtain ⟨g_43, hE⟩ := gd_e hE
    rcases br_e hE with ⟨_, hE⟩ | ⟨_, hE⟩
    · exact moX15_sayMove_255 hE
    · obtain ⟨o_45, eo_45, hE⟩ := cl_e hE
      refine (moX15_say eo_45).tr ?_
      obtain ⟨o_46, eo_46, hE⟩ := cl_e hE
      refine (moX15_say eo_46).tr ?_
      exact moX15_sayMove_255 hE
  · rcases br_e hE with ⟨_, hE⟩ | ⟨_, hE⟩
    · obtain ⟨r_24, er_24, hE⟩ := cl_e hE
      obtain ⟨r_25, er_25, hE⟩ := cl_e hE
      obtain ⟨r_26, er_26, hE⟩ := cl_e hE
      obtain ⟨r_27, er_27, hE⟩ := cl_e hE
      obtain ⟨g_28, hE⟩ := gd_e hE
      obtain ⟨g_29, hE⟩ := gd_e hE
      obtain ⟨o_30, eo_30, hE⟩ := cl_e hE
      refine (moX15_say eo_30).tr ?_
      obtain ⟨o_31, eo_31, hE⟩ := cl_e hE
      refine (moX15_say eo_31).tr ?_
      obtain ⟨o_32, eo_32, hE⟩ := cl_e hE
      refine (moX15_saySquare eo_32).tr ?_
      exact moX15_sayMove_255 hE
    · obtain ⟨r_12, er_12, hE⟩ := cl_e hE
      obtain ⟨r_13, er_13, hE⟩ := cl_e hE
      obtain ⟨g_14, hE⟩ := gd_e hE
      obtain ⟨r_15, er_15, hE⟩ := cl_e hE
      rcases br_e hE with ⟨_, hE⟩ | ⟨_, hE⟩
      · exact moX15_sayMove_183 hE
      · obtain ⟨r_17, er_17, hE⟩ := cl_e hE
        obtain ⟨r_18, er_18, hE⟩ := cl_e hE
        obtain ⟨r_19, er_19, hE⟩ := cl_e hE
        obtain ⟨r_20, er_20, hE⟩ := cl_e hE
        obtain ⟨g_21, hE⟩ := gd_e hE
        obtain ⟨g_22, hE⟩ := gd_e hE
        obtain ⟨o_23, eo_23, hE⟩ := cl_e hE
        refine (moX15_say eo_23).tr ?_
        exact moX15_sayMove_183 hE
set_option maxRecDepth 20000 in
theorem bX15_sayMove_373 {p : Program} {l : Launch} {e : Env} {s : State} {m : MethodId} {args : Array Value} {below : List Frame} {meth : Method} {c : Code} {X : Ec} {h0 : Hp} {o : Hp} {F : Nat} (C : Cx X p s m args meth c RX15 cX15_sayMove 6 none "sayMove") {h : Hp} {H : Heap} {locs : List Loc} (hkm : Km h0 h) (hW : Wx X h H) (hZ : va_S (aA (eB X)) s.heap H locs) (ls : Array Slot) (hl : lv_has ls 6 []) (hE : sX15_sayMove_373 F h  = some o) : W p l e (rm 7 191) s m args below meth c H locs 0 0 (MQ below (QV X h0 o) args s 0 0 (aA (eB X))) (F0 m 373 ls []) := by
  exact x_vret C rfl hW hZ hkm hE dX15_sayMove_373
set_option maxRecDepth 20000 in
theorem bX15_sayMove_344 {p : Program} {l : Launch} {e : Env} {s : State} {m : MethodId} {args : Array Value} {below : List Frame} {meth : Method} {c : Code} {X : Ec} {h0 : Hp} {o : Hp} {F : Nat} (C : Cx X p s m args meth c RX15 cX15_sayMove 6 none "sayMove") {h : Hp} {x0 : Nat} {x1 : Nat} {x5 : Int32} {H : Heap} {locs : List Loc} (k_x0 : hK h x0 = 15) (k_x1 : hK h x1 = 12) (hkm : Km h0 h) (hW : Wx X h H) (hZ : va_S (aA (eB X)) s.heap H locs) (ls : Array Slot) (hl : lv_has ls 6 [(0, .ref x0), (1, .ref x1), (5, .int x5)]) (hE : sX15_sayMove_344 F h x0 x1 x5 = some o) : W p l e (rm 7 191) s m args below meth c H locs 0 0 (MQ below (QV X h0 o) args s 0 0 (aA (eB X))) (F0 m 344 ls []) := by
  refine lv_iload C.1 C.2.1 dX15_sayMove_344 (lv_at hl 2 rfl) ?_
  refine lv_iconst (v := (-1 : Int32)) C.1 C.2.1 dX15_sayMove_346 (by decide) ?_
  refine lv_icmp_eq (tgt := 373) C.1 C.2.1 dX15_sayMove_347 (by decide) (fun c_1 => ?_) (fun c_1 => ?_)
  · have hE := br_p hE c_1
    exact bX15_sayMove_373 C hkm hW hZ _ (lv_sub hl [] rfl) hE
  · have hE := br_n hE c_1
    refine lv_aload_n C.1 C.2.1 dX15_sayMove_350 rfl (lv_at hl 0 rfl) ?_
    refine lv_aload_n C.1 C.2.1 dX15_sayMove_351 rfl (lv_at hl 0 rfl) ?_
    obtain ⟨r_2, er_2, hE⟩ := cl_e hE
    refine gf_X15_305 C hW k_x0 er_2 dX15_sayMove_352 (fun k_r_2 => ?_)
    refine lv_iload C.1 C.2.1 dX15_sayMove_355 (lv_at hl 2 rfl) ?_
    refine lv_aload_n C.1 C.2.1 dX15_sayMove_357 rfl (lv_at hl 1 rfl) ?_
    refine gf_X15_452 C hW k_x1 dX15_sayMove_358 ?_
    obtain ⟨o_3, eo_3, hE⟩ := cl_e hE
    refine x_kI (o := o_3) (z_runV (As := [.ref r_2, .int x5, .int (hI h x1 1)]) (rest := []) C (ct_X15_isAttacked l X F k_x0 k_r_2 eo_3) cw_X15_512 hW hZ k_x0 (by decide) rfl rfl rfl hl.1 (Nat.le_of_ble_eq_true rfl) rfl dX15_sayMove_361 ⟨Nat.le_of_ble_eq_true rfl, Nat.le_of_ble_eq_true rfl⟩ ⟨Nat.le_refl _, Nat.le_refl _⟩) hZ (fun _ _ hW km hZ => ?_)
    replace hkm := hkm.tr km
    replace k_x0 := km.at k_x0 (by decide)
    replace k_x1 := km.at k_x1 (by decide)
    refine lv_if_eq (tgt := 373) C.1 C.2.1 dX15_sayMove_364 (by decide) (fun c_4 => ?_) (fun c_4 => ?_)
    · have hE := br_p hE c_4
      exact bX15_sayMove_373 C hkm hW hZ _ (lv_sub hl [] rfl) hE
    · have hE := br_n hE c_4
      refine lv_aload_n C.1 C.2.1 dX15_sayMove_367 rfl (lv_at hl 0 rfl) ?_
      refine lv_bipush (v := (43 : Int32)) C.1 C.2.1 dX15_sayMove_368 (by decide) ?_
      obtain ⟨o_5, eo_5, hE⟩ := cl_e hE
      refine x_kV (o := o_5) (z_runV (As := [.int (43 : Int32)]) (rest := []) C (ct_X15_say l X k_x0 eo_5) cw_X15_21 hW hZ k_x0 (by decide) rfl rfl rfl hl.1 (Nat.le_of_ble_eq_true rfl) rfl dX15_sayMove_370 ⟨Nat.le_of_ble_eq_true rfl, Nat.le_of_ble_eq_true rfl⟩ ⟨Nat.le_refl _, Nat.le_refl _⟩) hZ (fun _ _ hW km hZ => ?_)
      replace hkm := hkm.tr km
      replace k_x0 := km.at k_x0 (by decide)
      replace k_x1 := km.at k_x1 (by decide)
      exact bX15_sayMove_373 C hkm hW hZ _ (lv_sub hl [] rfl) hE
set_option maxRecDepth 20000 in
theorem bX15_sayMove_255 {p : Program} {l : Launch} {e : Env} {s : State} {m : MethodId} {args : Array Value} {below : List Frame} {meth : Method} {c : Code} {X : Ec} {h0 : Hp} {o : Hp} {F : Nat} (C : Cx X p s m args meth c RX15 cX15_sayMove 6 none "sayMove") {h : Hp} {x0 : Nat} {x1 : Nat} {x2 : Int32} {H : Heap} {locs : List Loc} (k_x0 : hK h x0 = 15) (k_x1 : hK h x1 = 12) (hkm : Km h0 h) (hW : Wx X h H) (hZ : va_S (aA (eB X)) s.heap H locs) (ls : Array Slot) (hl : lv_has ls 6 [(0, .ref x0), (1, .ref x1), (2, .int x2)]) (hE : sX15_sayMove_255 F h x0 x1 x2 = some o) : W p l e (rm 7 191) s m args below meth c H locs 0 0 (MQ below (QV X h0 o) args s 0 0 (aA (eB X))) (F0 m 255 ls []) := by
  refine lv_aload_n C.1 C.2.1 dX15_sayMove_255 rfl (lv_at hl 0 rfl) ?_
  refine lv_aload_n C.1 C.2.1 dX15_sayMove_256 rfl (lv_at hl 0 rfl) ?_
  refine gf_X15_11 C hW k_x0 dX15_sayMove_257 ?_
  obtain ⟨h_1, eh_1, hE⟩ := nm_e2 hE
  refine pf_X15_693 C hW hZ k_x0 eh_1 dX15_sayMove_260 (fun _ _ hW km hZ => ?_)
  replace hkm := hkm.tr km
  replace k_x0 := km.at k_x0 (by decide)
  replace k_x1 := km.at k_x1 (by decide)
  refine lv_aload_n C.1 C.2.1 dX15_sayMove_263 rfl (lv_at hl 0 rfl) ?_
  refine lv_aload_n C.1 C.2.1 dX15_sayMove_264 rfl (lv_at hl 1 rfl) ?_
  refine lv_aload_n C.1 C.2.1 dX15_sayMove_265 rfl (lv_at hl 0 rfl) ?_
  obtain ⟨r_2, er_2, hE⟩ := cl_e hE
  refine gf_X15_288 C hW k_x0 er_2 dX15_sayMove_266 (fun k_r_2 => ?_)
  refine lv_iload_n C.1 C.2.1 dX15_sayMove_269 rfl (lv_at hl 2 rfl) ?_
  refine lv_aload_n C.1 C.2.1 dX15_sayMove_270 rfl (lv_at hl 0 rfl) ?_
  obtain ⟨r_3, er_3, hE⟩ := cl_e hE
  refine gf_X15_305 C hW k_x0 er_3 dX15_sayMove_271 (fun k_r_3 => ?_)
  obtain ⟨o_4, eo_4, hE⟩ := cl_e hE
  refine x_kV (o := o_4) (z_runV (As := [.ref x1, .ref r_2, .int x2, .ref r_3]) (rest := []) C (ct_X15_make l X F k_x0 k_x1 k_r_2 k_r_3 eo_4) cw_X15_627 hW hZ k_x0 (by decide) rfl rfl rfl hl.1 (Nat.le_of_ble_eq_true rfl) rfl dX15_sayMove_274 ⟨Nat.le_of_ble_eq_true rfl, Nat.le_of_ble_eq_true rfl⟩ ⟨Nat.le_refl _, Nat.le_refl _⟩) hZ (fun _ _ hW km hZ => ?_)
  replace hkm := hkm.tr km
  replace k_x0 := km.at k_x0 (by decide)
  replace k_x1 := km.at k_x1 (by decide)
  refine lv_aload_n C.1 C.2.1 dX15_sayMove_277 rfl (lv_at hl 0 rfl) ?_
  refine lv_aload_n C.1 C.2.1 dX15_sayMove_278 rfl (lv_at hl 0 rfl) ?_
  obtain ⟨r_5, er_5, hE⟩ := cl_e hE
  refine gf_X15_305 C hW k_x0 er_5 dX15_sayMove_279 (fun k_r_5 => ?_)
  refine lv_aload_n C.1 C.2.1 dX15_sayMove_282 rfl (lv_at hl 0 rfl) ?_
  obtain ⟨r_6, er_6, hE⟩ := cl_e hE
  refine gf_X15_292 C hW k_x0 er_6 dX15_sayMove_283 (fun k_r_6 => ?_)
  obtain ⟨o_7, eo_7, hE⟩ := cl_e hE
  refine x_kV (o := o_7) (z_runV (As := [.ref r_5, .ref r_6]) (rest := []) C (ct_X15_legal l X F k_x0 k_r_5 k_r_6 eo_7) cw_X15_652 hW hZ k_x0 (by decide) rfl rfl rfl hl.1 (Nat.le_of_ble_eq_true rfl) rfl dX15_sayMove_286 ⟨Nat.le_of_ble_eq_true rfl, Nat.le_of_ble_eq_true rfl⟩ ⟨Nat.le_refl _, Nat.le_refl _⟩) hZ (fun _ _ hW km hZ => ?_)
  replace hkm := hkm.tr km
  replace k_x0 := km.at k_x0 (by decide)
  replace k_x1 := km.at k_x1 (by decide)
  refine lv_aload_n C.1 C.2.1 dX15_sayMove_289 rfl (lv_at hl 0 rfl) ?_
  refine lv_aload_n C.1 C.2.1 dX15_sayMove_290 rfl (lv_at hl 0 rfl) ?_
  obtain ⟨r_8, er_8, hE⟩ := cl_e hE
  refine gf_X15_305 C hW k_x0 er_8 dX15_sayMove_291 (fun k_r_8 => ?_)
  refine lv_aload_n C.1 C.2.1 dX15_sayMove_294 rfl (lv_at hl 0 rfl) ?_
  obtain ⟨r_9, er_9, hE⟩ := cl_e hE
  refine gf_X15_305 C hW k_x0 er_9 dX15_sayMove_295 (fun k_r_9 => ?_)
  refine gf_X15_452 C hW k_r_9 dX15_sayMove_298 ?_
  obtain ⟨o_10, eo_10, hE⟩ := cl_e hE
  refine x_kI (o := o_10) (z_runV (As := [.ref r_8, .int (hI o_7 r_9 1)]) (rest := []) C (ct_X15_royalOf l X F k_x0 k_r_8 eo_10) cw_X15_508 hW hZ k_x0 (by decide) rfl rfl rfl hl.1 (Nat.le_of_ble_eq_true rfl) rfl dX15_sayMove_301 ⟨Nat.le_of_ble_eq_true rfl, Nat.le_of_ble_eq_true rfl⟩ ⟨Nat.le_refl _, Nat.le_refl _⟩) hZ (fun _ _ hW km hZ => ?_)
  replace hkm := hkm.tr km
  replace k_x0 := km.at k_x0 (by decide)
  replace k_x1 := km.at k_x1 (by decide)
  refine lv_istore (lv' := [(5, .int o_10.1), (0, .ref x0), (1, .ref x1), (2, .int x2)]) C.1 C.2.1 dX15_sayMove_304 hl (by decide) rfl (fun ls hl => ?_)
  refine lv_aload_n C.1 C.2.1 dX15_sayMove_306 rfl (lv_at hl 1 rfl) ?_
  refine lv_aload_n C.1 C.2.1 dX15_sayMove_307 rfl (lv_at hl 1 rfl) ?_
  obtain ⟨r_11, er_11, hE⟩ := cl_e hE
  refine gf_X15_305 C hW k_x0 er_11 dX15_sayMove_308 (fun k_r_11 => ?_)
  refine lv_aload_n C.1 C.2.1 dX15_sayMove_311 rfl (lv_at hl 1 rfl) ?_
  obtain ⟨r_12, er_12, hE⟩ := cl_e hE
  refine gf_X15_292 C hW k_x0 er_12 dX15_sayMove_312 (fun k_r_12 => ?_)
  refine gf_X15_575 C hW k_r_12 dX15_sayMove_315 ?_
  obtain ⟨o_13, eo_13, hE⟩ := cl_e hE
  refine x_kI (o := o_13) (z_runV (As := [.ref r_11, .int (hI o_10.2 r_12 0)]) (rest := []) C (ct_X15_endedBy l X F k_x0 k_r_11 eo_13) cw_X15_683 hW hZ k_x0 (by decide) rfl rfl rfl hl.1 (Nat.le_of_ble_eq_true rfl) rfl dX15_sayMove_318 ⟨Nat.le_of_ble_eq_true rfl, Nat.le_of_ble_eq_true rfl⟩ ⟨Nat.le_refl _, Nat.le_refl _⟩) hZ (fun _ _ hW km hZ => ?_)
  replace hkm := hkm.tr km
  replace k_x0 := km.at k_x0 (by decide)
  replace k_x1 := km.at k_x1 (by decide)
  refine lv_if_le (tgt := 344) C.1 C.2.1 dX15_sayMove_321 (by decide) (fun c_14 => ?_) (fun c_14 => ?_)
  · have hE := br_p hE c_14
    exact bX15_sayMove_344 C k_x0 k_x1 hkm hW hZ _ (lv_sub hl [1, 2, 0] rfl) hE
  · have hE := br_n hE c_14
    refine lv_aload_n C.1 C.2.1 dX15_sayMove_324 rfl (lv_at hl 1 rfl) ?_
    refine gf_X15_646 C hW k_x0 dX15_sayMove_325 ?_
    refine lv_aload_n C.1 C.2.1 dX15_sayMove_328 rfl (lv_at hl 2 rfl) ?_
    refine gf_X15_452 C hW k_x1 dX15_sayMove_329 ?_
    refine lv_icmp_ne (tgt := 344) C.1 C.2.1 dX15_sayMove_332 (by decide) (fun c_15 => ?_) (fun c_15 => ?_)
    · have hE := br_n hE c_15
      exact bX15_sayMove_344 C k_x0 k_x1 hkm hW hZ _ (lv_sub hl [1, 2, 0] rfl) hE
    · have hE := br_p hE c_15
      refine lv_aload_n C.1 C.2.1 dX15_sayMove_335 rfl (lv_at hl 1 rfl) ?_
      refine lv_bipush (v := (35 : Int32)) C.1 C.2.1 dX15_sayMove_336 (by decide) ?_
      obtain ⟨o_16, eo_16, hE⟩ := cl_e hE
      refine x_kV (o := o_16) (z_runV (As := [.int (35 : Int32)]) (rest := []) C (ct_X15_say l X k_x0 eo_16) cw_X15_21 hW hZ k_x0 (by decide) rfl rfl rfl hl.1 (Nat.le_of_ble_eq_true rfl) rfl dX15_sayMove_338 ⟨Nat.le_of_ble_eq_true rfl, Nat.le_of_ble_eq_true rfl⟩ ⟨Nat.le_refl _, Nat.le_refl _⟩) hZ (fun _ _ hW km hZ => ?_)
      replace hkm := hkm.tr km
      replace k_x0 := km.at k_x0 (by decide)
      replace k_x1 := km.at k_x1 (by decide)
      refine lv_goto (tgt := 373) C.1 C.2.1 dX15_sayMove_341 (by decide) ?_
      exact bX15_sayMove_373 C hkm hW hZ _ (lv_sub hl [] rfl) hE
set_option maxRecDepth 20000 in
theorem bX15_sayMove_207 {p : Program} {l : Launch} {e : Env} {s : State} {m : MethodId} {args : Array Value} {below : List Frame} {meth : Method} {c : Code} {X : Ec} {h0 : Hp} {o : Hp} {F : Nat} (C : Cx X p s m args meth c RX15 cX15_sayMove 6 none "sayMove") {h : Hp} {x0 : Nat} {x1 : Nat} {x2 : Int32} {x3 : Int32} {H : Heap} {locs : List Loc} (k_x0 : hK h x0 = 15) (k_x1 : hK h x1 = 12) (hkm : Km h0 h) (hW : Wx X h H) (hZ : va_S (aA (eB X)) s.heap H locs) (ls : Array Slot) (hl : lv_has ls 6 [(0, .ref x0), (1, .ref x1), (2, .int x2), (3, .int x3)]) (hE : sX15_sayMove_207 F h x0 x1 x2 x3 = some o) : W p l e (rm 7 191) s m args below meth c H locs 0 0 (MQ below (QV X h0 o) args s 0 0 (aA (eB X))) (F0 m 207 ls []) := by
  refine lv_aload_n C.1 C.2.1 dX15_sayMove_207 rfl (lv_at hl 0 rfl) ?_
  refine lv_iload_n C.1 C.2.1 dX15_sayMove_208 rfl (lv_at hl 3 rfl) ?_
  obtain ⟨o_1, eo_1, hE⟩ := cl_e hE
  refine x_kV (o := o_1) (z_runV (As := [.int x3]) (rest := []) C (ct_X15_saySquare l X k_x0 eo_1) cw_X15_539 hW hZ k_x0 (by decide) rfl rfl rfl hl.1 (Nat.le_of_ble_eq_true rfl) rfl dX15_sayMove_209 ⟨Nat.le_of_ble_eq_true rfl, Nat.le_of_ble_eq_true rfl⟩ ⟨Nat.le_refl _, Nat.le_refl _⟩) hZ (fun _ _ hW km hZ => ?_)
  replace hkm := hkm.tr km
  replace k_x0 := km.at k_x0 (by decide)
  replace k_x1 := km.at k_x1 (by decide)
  refine lv_aload_n C.1 C.2.1 dX15_sayMove_212 rfl (lv_at hl 0 rfl) ?_
  obtain ⟨r_2, er_2, hE⟩ := cl_e hE
  refine gf_X15_288 C hW k_x0 er_2 dX15_sayMove_213 (fun k_r_2 => ?_)
  obtain ⟨r_3, er_3, hE⟩ := cl_e hE
  refine gf_X15_612 C hW k_r_2 er_3 dX15_sayMove_216 (fun k_r_3 => ?_)
  refine lv_iload_n C.1 C.2.1 dX15_sayMove_219 rfl (lv_at hl 2 rfl) ?_
  obtain ⟨g_4, hE⟩ := gd_e hE
  refine y_iald C hW k_r_3 g_4 dX15_sayMove_220 ?_
  refine lv_iconst (v := (-1 : Int32)) C.1 C.2.1 dX15_sayMove_221 (by decide) ?_
  refine lv_icmp_eq (tgt := 255) C.1 C.2.1 dX15_sayMove_222 (by decide) (fun c_5 => ?_) (fun c_5 => ?_)
  · have hE := br_p hE c_5
    exact bX15_sayMove_255 C k_x0 k_x1 hkm hW hZ _ (lv_sub hl [0, 1, 2] rfl) hE
  · have hE := br_n hE c_5
    refine lv_aload_n C.1 C.2.1 dX15_sayMove_225 rfl (lv_at hl 0 rfl) ?_
    refine lv_bipush (v := (61 : Int32)) C.1 C.2.1 dX15_sayMove_226 (by decide) ?_
    obtain ⟨o_6, eo_6, hE⟩ := cl_e hE
    refine x_kV (o := o_6) (z_runV (As := [.int (61 : Int32)]) (rest := []) C (ct_X15_say l X k_x0 eo_6) cw_X15_21 hW hZ k_x0 (by decide) rfl rfl rfl hl.1 (Nat.le_of_ble_eq_true rfl) rfl dX15_sayMove_228 ⟨Nat.le_of_ble_eq_true rfl, Nat.le_of_ble_eq_true rfl⟩ ⟨Nat.le_refl _, Nat.le_refl _⟩) hZ (fun _ _ hW km hZ => ?_)
    replace hkm := hkm.tr km
    replace k_x0 := km.at k_x0 (by decide)
    replace k_x1 := km.at k_x1 (by decide)
    refine lv_aload_n C.1 C.2.1 dX15_sayMove_231 rfl (lv_at hl 0 rfl) ?_
    refine lv_aload_n C.1 C.2.1 dX15_sayMove_232 rfl (lv_at hl 0 rfl) ?_
    obtain ⟨r_7, er_7, hE⟩ := cl_e hE
    refine gf_X15_252 C hW k_x0 er_7 dX15_sayMove_233 (fun k_r_7 => ?_)
    obtain ⟨r_8, er_8, hE⟩ := cl_e hE
    refine gf_X15_172 C hW k_r_7 er_8 dX15_sayMove_236 (fun k_r_8 => ?_)
    refine lv_aload_n C.1 C.2.1 dX15_sayMove_239 rfl (lv_at hl 0 rfl) ?_
    obtain ⟨r_9, er_9, hE⟩ := cl_e hE
    refine gf_X15_288 C hW k_x0 er_9 dX15_sayMove_240 (fun k_r_9 => ?_)
    obtain ⟨r_10, er_10, hE⟩ := cl_e hE
    refine gf_X15_612 C hW k_r_9 er_10 dX15_sayMove_243 (fun k_r_10 => ?_)
    refine lv_iload_n C.1 C.2.1 dX15_sayMove_246 rfl (lv_at hl 2 rfl) ?_
    obtain ⟨g_11, hE⟩ := gd_e hE
    refine y_iald C hW k_r_10 g_11 dX15_sayMove_247 ?_
    obtain ⟨g_12, hE⟩ := gd_e hE
    refine y_iald C hW k_r_8 g_12 dX15_sayMove_248 ?_
    refine lv_bipush (v := (32 : Int32)) C.1 C.2.1 dX15_sayMove_249 (by decide) ?_
    refine lv_isub C.1 C.2.1 dX15_sayMove_251 ?_
    obtain ⟨o_13, eo_13, hE⟩ := cl_e hE
    refine x_kV (o := o_13) (z_runV (As := [.int ((hI o_6 r_8 (hI o_6 r_10 x2.toNatClampNeg).toNatClampNeg) - (32 : Int32))]) (rest := []) C (ct_X15_say l X k_x0 eo_13) cw_X15_21 hW hZ k_x0 (by decide) rfl rfl rfl hl.1 (Nat.le_of_ble_eq_true rfl) rfl dX15_sayMove_252 ⟨Nat.le_of_ble_eq_true rfl, Nat.le_of_ble_eq_true rfl⟩ ⟨Nat.le_refl _, Nat.le_refl _⟩) hZ (fun _ _ hW km hZ => ?_)
    replace hkm := hkm.tr km
    replace k_x0 := km.at k_x0 (by decide)
    replace k_x1 := km.at k_x1 (by decide)
    exact bX15_sayMove_255 C k_x0 k_x1 hkm hW hZ _ (lv_sub hl [0, 1, 2] rfl) hE
set_option maxRecDepth 20000 in
theorem bX15_sayMove_183 {p : Program} {l : Launch} {e : Env} {s : State} {m : MethodId} {args : Array Value} {below : List Frame} {meth : Method} {c : Code} {X : Ec} {h0 : Hp} {o : Hp} {F : Nat} (C : Cx X p s m args meth c RX15 cX15_sayMove 6 none "sayMove") {h : Hp} {x0 : Nat} {x1 : Nat} {x2 : Int32} {x3 : Int32} {H : Heap} {locs : List Loc} (k_x0 : hK h x0 = 15) (k_x1 : hK h x1 = 12) (hkm : Km h0 h) (hW : Wx X h H) (hZ : va_S (aA (eB X)) s.heap H locs) (ls : Array Slot) (hl : lv_has ls 6 [(0, .ref x0), (1, .ref x1), (2, .int x2), (3, .int x3)]) (hE : sX15_sayMove_183 F h x0 x1 x2 x3 = some o) : W p l e (rm 7 191) s m args below meth c H locs 0 0 (MQ below (QV X h0 o) args s 0 0 (aA (eB X))) (F0 m 183 ls []) := by
  refine lv_aload_n C.1 C.2.1 dX15_sayMove_183 rfl (lv_at hl 0 rfl) ?_
  refine lv_iload_n C.1 C.2.1 dX15_sayMove_184 rfl (lv_at hl 2 rfl) ?_
  obtain ⟨o_1, eo_1, hE⟩ := cl_e hE
  refine x_kV (o := o_1) (z_runV (As := [.int x2]) (rest := []) C (ct_X15_sayWhich l X F k_x0 eo_1) cw_X15_690 hW hZ k_x0 (by decide) rfl rfl rfl hl.1 (Nat.le_of_ble_eq_true rfl) rfl dX15_sayMove_185 ⟨Nat.le_of_ble_eq_true rfl, Nat.le_of_ble_eq_true rfl⟩ ⟨Nat.le_refl _, Nat.le_refl _⟩) hZ (fun _ _ hW km hZ => ?_)
  replace hkm := hkm.tr km
  replace k_x0 := km.at k_x0 (by decide)
  replace k_x1 := km.at k_x1 (by decide)
  refine lv_aload_n C.1 C.2.1 dX15_sayMove_188 rfl (lv_at hl 0 rfl) ?_
  obtain ⟨r_2, er_2, hE⟩ := cl_e hE
  refine gf_X15_288 C hW k_x0 er_2 dX15_sayMove_189 (fun k_r_2 => ?_)
  obtain ⟨r_3, er_3, hE⟩ := cl_e hE
  refine gf_X15_605 C hW k_r_2 er_3 dX15_sayMove_192 (fun k_r_3 => ?_)
  refine lv_iload_n C.1 C.2.1 dX15_sayMove_195 rfl (lv_at hl 2 rfl) ?_
  obtain ⟨g_4, hE⟩ := gd_e hE
  refine y_iald C hW k_r_3 g_4 dX15_sayMove_196 ?_
  refine lv_iconst (v := (-1 : Int32)) C.1 C.2.1 dX15_sayMove_197 (by decide) ?_
  refine lv_icmp_eq (tgt := 207) C.1 C.2.1 dX15_sayMove_198 (by decide) (fun c_5 => ?_) (fun c_5 => ?_)
  · have hE := br_p hE c_5
    exact bX15_sayMove_207 C k_x0 k_x1 hkm hW hZ _ (lv_sub hl [0, 1, 2, 3] rfl) hE
  · have hE := br_n hE c_5
    refine lv_aload_n C.1 C.2.1 dX15_sayMove_201 rfl (lv_at hl 0 rfl) ?_
    refine lv_bipush (v := (120 : Int32)) C.1 C.2.1 dX15_sayMove_202 (by decide) ?_
    obtain ⟨o_6, eo_6, hE⟩ := cl_e hE
    refine x_kV (o := o_6) (z_runV (As := [.int (120 : Int32)]) (rest := []) C (ct_X15_say l X k_x0 eo_6) cw_X15_21 hW hZ k_x0 (by decide) rfl rfl rfl hl.1 (Nat.le_of_ble_eq_true rfl) rfl dX15_sayMove_204 ⟨Nat.le_of_ble_eq_true rfl, Nat.le_of_ble_eq_true rfl⟩ ⟨Nat.le_refl _, Nat.le_refl _⟩) hZ (fun _ _ hW km hZ => ?_)
    replace hkm := hkm.tr km
    replace k_x0 := km.at k_x0 (by decide)
    replace k_x1 := km.at k_x1 (by decide)
    exact bX15_sayMove_207 C k_x0 k_x1 hkm hW hZ _ (lv_sub hl [0, 1, 2, 3] rfl) hE
set_option maxRecDepth 20000 in
theorem ct_X15_sayMove (l : Launch) (X : Ec) (F : Nat) {h : Hp} {x0 : Nat} {x1 : Nat} {x2 : Int32} {o : Hp} (k_x0 : hK h x0 = 15) (k_x1 : hK h x1 = 12) (hE : sX15_sayMove F h x0 x1 x2 = some o) : MetV l yX15_sayMove cX15_sayMove 6 none 7 191 X [.ref x0, .ref x1, .int x2] h o := by
  refine x_met (by decide) (Nat.le_of_ble_eq_true rfl) ?_
  intro p e s m below meth c ls C hl hW hZ
  have hl : lv_has ls 6 [(0, .ref x0), (1, .ref x1), (2, .int x2)] := hl
  have hkm : Km h h := Km.rf h
  refine lv_aload_n C.1 C.2.1 dX15_sayMove_0 rfl (lv_at hl 0 rfl) ?_
  refine lv_iconst (v := (0 : Int32)) C.1 C.2.1 dX15_sayMove_1 (by decide) ?_
  obtain ⟨h_1, eh_1, hE⟩ := nm_e2 hE
  refine pf_X15_11 C hW hZ k_x0 eh_1 dX15_sayMove_2 (fun _ _ hW km hZ => ?_)
  replace hkm := hkm.tr km
  replace k_x0 := km.at k_x0 (by decide)
  replace k_x1 := km.at k_x1 (by decide)
  refine lv_aload_n C.1 C.2.1 dX15_sayMove_5 rfl (lv_at hl 0 rfl) ?_
  obtain ⟨r_2, er_2, hE⟩ := cl_e hE
  refine gf_X15_288 C hW k_x0 er_2 dX15_sayMove_6 (fun k_r_2 => ?_)
  obtain ⟨r_3, er_3, hE⟩ := cl_e hE
  refine gf_X15_598 C hW k_r_2 er_3 dX15_sayMove_9 (fun k_r_3 => ?_)
  refine lv_iload_n C.1 C.2.1 dX15_sayMove_12 rfl (lv_at hl 2 rfl) ?_
  obtain ⟨g_4, hE⟩ := gd_e hE
  refine y_iald C hW k_r_3 g_4 dX15_sayMove_13 ?_
  obtain ⟨v_5, ev_5, hE⟩ := nm_e2 hE
  refine x_nmI ev_5 ?_
  refine lv_istore_n (lv' := [(3, .int v_5), (0, .ref x0), (1, .ref x1), (2, .int x2)]) C.1 C.2.1 dX15_sayMove_14 rfl hl (by decide) rfl (fun ls hl => ?_)
  refine lv_aload_n C.1 C.2.1 dX15_sayMove_15 rfl (lv_at hl 1 rfl) ?_
  obtain ⟨r_6, er_6, hE⟩ := cl_e hE
  refine gf_X15_288 C hW k_x0 er_6 dX15_sayMove_16 (fun k_r_6 => ?_)
  obtain ⟨r_7, er_7, hE⟩ := cl_e hE
  refine gf_X15_602 C hW k_r_6 er_7 dX15_sayMove_19 (fun k_r_7 => ?_)
  refine lv_iload_n C.1 C.2.1 dX15_sayMove_22 rfl (lv_at hl 3 rfl) ?_
  obtain ⟨g_8, hE⟩ := gd_e hE
  refine y_iald C hW k_r_7 g_8 dX15_sayMove_23 ?_
  obtain ⟨v_9, ev_9, hE⟩ := nm_e2 hE
  refine x_nmI ev_9 ?_
  refine lv_istore (lv' := [(4, .int v_9), (3, .int v_5), (0, .ref x0), (1, .ref x1), (2, .int x2)]) C.1 C.2.1 dX15_sayMove_24 hl (by decide) rfl (fun ls hl => ?_)
  refine lv_iload C.1 C.2.1 dX15_sayMove_26 (lv_at hl 0 rfl) ?_
  refine lv_iconst (v := (2 : Int32)) C.1 C.2.1 dX15_sayMove_28 (by decide) ?_
  refine lv_icmp_ne (tgt := 96) C.1 C.2.1 dX15_sayMove_29 (by decide) (fun c_10 => ?_) (fun c_10 => ?_)
  · have hE := br_n hE c_10
    refine lv_iload C.1 C.2.1 dX15_sayMove_96 (lv_at hl 0 rfl) ?_
    refine lv_iconst (v := (3 : Int32)) C.1 C.2.1 dX15_sayMove_98 (by decide) ?_
    refine lv_icmp_ne (tgt := 140) C.1 C.2.1 dX15_sayMove_99 (by decide) (fun c_11 => ?_) (fun c_11 => ?_)
    · have hE := br_n hE c_11
      refine lv_aload_n C.1 C.2.1 dX15_sayMove_140 rfl (lv_at hl 2 rfl) ?_
      obtain ⟨r_12, er_12, hE⟩ := cl_e hE
      refine gf_X15_288 C hW k_x0 er_12 dX15_sayMove_141 (fun k_r_12 => ?_)
      obtain ⟨r_13, er_13, hE⟩ := cl_e hE
      refine gf_X15_600 C hW k_r_12 er_13 dX15_sayMove_144 (fun k_r_13 => ?_)
      refine lv_iload_n C.1 C.2.1 dX15_sayMove_147 rfl (lv_at hl 4 rfl) ?_
      obtain ⟨g_14, hE⟩ := gd_e hE
      refine y_iald C hW k_r_13 g_14 dX15_sayMove_148 ?_
      refine lv_aload_n C.1 C.2.1 dX15_sayMove_149 rfl (lv_at hl 2 rfl) ?_
      obtain ⟨r_15, er_15, hE⟩ := cl_e hE
      refine gf_X15_252 C hW k_x0 er_15 dX15_sayMove_150 (fun k_r_15 => ?_)
      refine gf_X15_225 C hW k_r_15 dX15_sayMove_153 ?_
      refine lv_icmp_eq (tgt := 183) C.1 C.2.1 dX15_sayMove_156 (by decide) (fun c_16 => ?_) (fun c_16 => ?_)
      · have hE := br_p hE c_16
        exact bX15_sayMove_183 C k_x0 k_x1 hkm hW hZ _ (lv_sub hl [2, 3, 4, 1] rfl) hE
      · have hE := br_n hE c_16
        refine lv_aload_n C.1 C.2.1 dX15_sayMove_159 rfl (lv_at hl 2 rfl) ?_
        refine lv_aload_n C.1 C.2.1 dX15_sayMove_160 rfl (lv_at hl 2 rfl) ?_
        obtain ⟨r_17, er_17, hE⟩ := cl_e hE
        refine gf_X15_252 C hW k_x0 er_17 dX15_sayMove_161 (fun k_r_17 => ?_)
        obtain ⟨r_18, er_18, hE⟩ := cl_e hE
        refine gf_X15_172 C hW k_r_17 er_18 dX15_sayMove_164 (fun k_r_18 => ?_)
        refine lv_aload_n C.1 C.2.1 dX15_sayMove_167 rfl (lv_at hl 2 rfl) ?_
        obtain ⟨r_19, er_19, hE⟩ := cl_e hE
        refine gf_X15_288 C hW k_x0 er_19 dX15_sayMove_168 (fun k_r_19 => ?_)
        obtain ⟨r_20, er_20, hE⟩ := cl_e hE
        refine gf_X15_600 C hW k_r_19 er_20 dX15_sayMove_171 (fun k_r_20 => ?_)
        refine lv_iload_n C.1 C.2.1 dX15_sayMove_174 rfl (lv_at hl 4 rfl) ?_
        obtain ⟨g_21, hE⟩ := gd_e hE
        refine y_iald C hW k_r_20 g_21 dX15_sayMove_175 ?_
        obtain ⟨g_22, hE⟩ := gd_e hE
        refine y_iald C hW k_r_18 g_22 dX15_sayMove_176 ?_
        refine lv_bipush (v := (32 : Int32)) C.1 C.2.1 dX15_sayMove_177 (by decide) ?_
        refine lv_isub C.1 C.2.1 dX15_sayMove_179 ?_
        obtain ⟨o_23, eo_23, hE⟩ := cl_e hE
        refine x_kV (o := o_23) (z_runV (As := [.int ((hI h_1 r_18 (hI h_1 r_20 x2.toNatClampNeg).toNatClampNeg) - (32 : Int32))]) (rest := []) C (ct_X15_say l X k_x0 eo_23) cw_X15_21 hW hZ k_x0 (by decide) rfl rfl rfl hl.1 (Nat.le_of_ble_eq_true rfl) rfl dX15_sayMove_180 ⟨Nat.le_of_ble_eq_true rfl, Nat.le_of_ble_eq_true rfl⟩ ⟨Nat.le_refl _, Nat.le_refl _⟩) hZ (fun _ _ hW km hZ => ?_)
        replace hkm := hkm.tr km
        replace k_x0 := km.at k_x0 (by decide)
        replace k_x1 := km.at k_x1 (by decide)
        exact bX15_sayMove_183 C k_x0 k_x1 hkm hW hZ _ (lv_sub hl [2, 3, 4, 1] rfl) hE
    · have hE := br_p hE c_11
      refine lv_aload_n C.1 C.2.1 dX15_sayMove_102 rfl (lv_at hl 2 rfl) ?_
      refine lv_aload_n C.1 C.2.1 dX15_sayMove_103 rfl (lv_at hl 2 rfl) ?_
      obtain ⟨r_24, er_24, hE⟩ := cl_e hE
      refine gf_X15_252 C hW k_x0 er_24 dX15_sayMove_104 (fun k_r_24 => ?_)
      obtain ⟨r_25, er_25, hE⟩ := cl_e hE
      refine gf_X15_172 C hW k_r_24 er_25 dX15_sayMove_107 (fun k_r_25 => ?_)
      refine lv_aload_n C.1 C.2.1 dX15_sayMove_110 rfl (lv_at hl 2 rfl) ?_
      obtain ⟨r_26, er_26, hE⟩ := cl_e hE
      refine gf_X15_288 C hW k_x0 er_26 dX15_sayMove_111 (fun k_r_26 => ?_)
      obtain ⟨r_27, er_27, hE⟩ := cl_e hE
      refine gf_X15_600 C hW k_r_26 er_27 dX15_sayMove_114 (fun k_r_27 => ?_)
      refine lv_iload_n C.1 C.2.1 dX15_sayMove_117 rfl (lv_at hl 4 rfl) ?_
      obtain ⟨g_28, hE⟩ := gd_e hE
      refine y_iald C hW k_r_27 g_28 dX15_sayMove_118 ?_
      obtain ⟨g_29, hE⟩ := gd_e hE
      refine y_iald C hW k_r_25 g_29 dX15_sayMove_119 ?_
      refine lv_bipush (v := (32 : Int32)) C.1 C.2.1 dX15_sayMove_120 (by decide) ?_
      refine lv_isub C.1 C.2.1 dX15_sayMove_122 ?_
      obtain ⟨o_30, eo_30, hE⟩ := cl_e hE
      refine x_kV (o := o_30) (z_runV (As := [.int ((hI h_1 r_25 (hI h_1 r_27 x2.toNatClampNeg).toNatClampNeg) - (32 : Int32))]) (rest := []) C (ct_X15_say l X k_x0 eo_30) cw_X15_21 hW hZ k_x0 (by decide) rfl rfl rfl hl.1 (Nat.le_of_ble_eq_true rfl) rfl dX15_sayMove_123 ⟨Nat.le_of_ble_eq_true rfl, Nat.le_of_ble_eq_true rfl⟩ ⟨Nat.le_refl _, Nat.le_refl _⟩) hZ (fun _ _ hW km hZ => ?_)
      replace hkm := hkm.tr km
      replace k_x0 := km.at k_x0 (by decide)
      replace k_x1 := km.at k_x1 (by decide)
      refine lv_aload_n C.1 C.2.1 dX15_sayMove_126 rfl (lv_at hl 2 rfl) ?_
      refine lv_bipush (v := (64 : Int32)) C.1 C.2.1 dX15_sayMove_127 (by decide) ?_
      obtain ⟨o_31, eo_31, hE⟩ := cl_e hE
      refine x_kV (o := o_31) (z_runV (As := [.int (64 : Int32)]) (rest := []) C (ct_X15_say l X k_x0 eo_31) cw_X15_21 hW hZ k_x0 (by decide) rfl rfl rfl hl.1 (Nat.le_of_ble_eq_true rfl) rfl dX15_sayMove_129 ⟨Nat.le_of_ble_eq_true rfl, Nat.le_of_ble_eq_true rfl⟩ ⟨Nat.le_refl _, Nat.le_refl _⟩) hZ (fun _ _ hW km hZ => ?_)
      replace hkm := hkm.tr km
      replace k_x0 := km.at k_x0 (by decide)
      replace k_x1 := km.at k_x1 (by decide)
      refine lv_aload_n C.1 C.2.1 dX15_sayMove_132 rfl (lv_at hl 2 rfl) ?_
      refine lv_iload_n C.1 C.2.1 dX15_sayMove_133 rfl (lv_at hl 1 rfl) ?_
      obtain ⟨o_32, eo_32, hE⟩ := cl_e hE
      refine x_kV (o := o_32) (z_runV (As := [.int v_5]) (rest := []) C (ct_X15_saySquare l X k_x0 eo_32) cw_X15_539 hW hZ k_x0 (by decide) rfl rfl rfl hl.1 (Nat.le_of_ble_eq_true rfl) rfl dX15_sayMove_134 ⟨Nat.le_of_ble_eq_true rfl, Nat.le_of_ble_eq_true rfl⟩ ⟨Nat.le_refl _, Nat.le_refl _⟩) hZ (fun _ _ hW km hZ => ?_)
      replace hkm := hkm.tr km
      replace k_x0 := km.at k_x0 (by decide)
      replace k_x1 := km.at k_x1 (by decide)
      refine lv_goto (tgt := 255) C.1 C.2.1 dX15_sayMove_137 (by decide) ?_
      exact bX15_sayMove_255 C k_x0 k_x1 hkm hW hZ _ (lv_sub hl [2, 3, 4] rfl) hE
  · have hE := br_p hE c_10
    refine lv_aload_n C.1 C.2.1 dX15_sayMove_32 rfl (lv_at hl 2 rfl) ?_
    refine lv_bipush (v := (79 : Int32)) C.1 C.2.1 dX15_sayMove_33 (by decide) ?_
    obtain ⟨o_33, eo_33, hE⟩ := cl_e hE
    refine x_kV (o := o_33) (z_runV (As := [.int (79 : Int32)]) (rest := []) C (ct_X15_say l X k_x0 eo_33) cw_X15_21 hW hZ k_x0 (by decide) rfl rfl rfl hl.1 (Nat.le_of_ble_eq_true rfl) rfl dX15_sayMove_35 ⟨Nat.le_of_ble_eq_true rfl, Nat.le_of_ble_eq_true rfl⟩ ⟨Nat.le_refl _, Nat.le_refl _⟩) hZ (fun _ _ hW km hZ => ?_)
    replace hkm := hkm.tr km
    replace k_x0 := km.at k_x0 (by decide)
    replace k_x1 := km.at k_x1 (by decide)
    refine lv_aload_n C.1 C.2.1 dX15_sayMove_38 rfl (lv_at hl 2 rfl) ?_
    refine lv_bipush (v := (45 : Int32)) C.1 C.2.1 dX15_sayMove_39 (by decide) ?_
    obtain ⟨o_34, eo_34, hE⟩ := cl_e hE
    refine x_kV (o := o_34) (z_runV (As := [.int (45 : Int32)]) (rest := []) C (ct_X15_say l X k_x0 eo_34) cw_X15_21 hW hZ k_x0 (by decide) rfl rfl rfl hl.1 (Nat.le_of_ble_eq_true rfl) rfl dX15_sayMove_41 ⟨Nat.le_of_ble_eq_true rfl, Nat.le_of_ble_eq_true rfl⟩ ⟨Nat.le_refl _, Nat.le_refl _⟩) hZ (fun _ _ hW km hZ => ?_)
    replace hkm := hkm.tr km
    replace k_x0 := km.at k_x0 (by decide)
    replace k_x1 := km.at k_x1 (by decide)
    refine lv_aload_n C.1 C.2.1 dX15_sayMove_44 rfl (lv_at hl 2 rfl) ?_
    refine lv_bipush (v := (79 : Int32)) C.1 C.2.1 dX15_sayMove_45 (by decide) ?_
    obtain ⟨o_35, eo_35, hE⟩ := cl_e hE
    refine x_kV (o := o_35) (z_runV (As := [.int (79 : Int32)]) (rest := []) C (ct_X15_say l X k_x0 eo_35) cw_X15_21 hW hZ k_x0 (by decide) rfl rfl rfl hl.1 (Nat.le_of_ble_eq_true rfl) rfl dX15_sayMove_47 ⟨Nat.le_of_ble_eq_true rfl, Nat.le_of_ble_eq_true rfl⟩ ⟨Nat.le_refl _, Nat.le_refl _⟩) hZ (fun _ _ hW km hZ => ?_)
    replace hkm := hkm.tr km
    replace k_x0 := km.at k_x0 (by decide)
    replace k_x1 := km.at k_x1 (by decide)
    refine lv_aload_n C.1 C.2.1 dX15_sayMove_50 rfl (lv_at hl 2 rfl) ?_
    obtain ⟨r_36, er_36, hE⟩ := cl_e hE
    refine gf_X15_288 C hW k_x0 er_36 dX15_sayMove_51 (fun k_r_36 => ?_)
    obtain ⟨r_37, er_37, hE⟩ := cl_e hE
    refine gf_X15_619 C hW k_r_36 er_37 dX15_sayMove_54 (fun k_r_37 => ?_)
    refine lv_iload_n C.1 C.2.1 dX15_sayMove_57 rfl (lv_at hl 4 rfl) ?_
    obtain ⟨g_38, hE⟩ := gd_e hE
    refine y_iald C hW k_r_37 g_38 dX15_sayMove_58 ?_
    refine lv_aload_n C.1 C.2.1 dX15_sayMove_59 rfl (lv_at hl 2 rfl) ?_
    refine gf_X15_382 C hW k_x0 dX15_sayMove_60 ?_
    obtain ⟨g_39, hE⟩ := gd_e hE
    refine lv_irem C.1 C.2.1 dX15_sayMove_63 g_39 ?_
    refine lv_aload_n C.1 C.2.1 dX15_sayMove_64 rfl (lv_at hl 2 rfl) ?_
    obtain ⟨r_40, er_40, hE⟩ := cl_e hE
    refine gf_X15_288 C hW k_x0 er_40 dX15_sayMove_65 (fun k_r_40 => ?_)
    obtain ⟨r_41, er_41, hE⟩ := cl_e hE
    refine gf_X15_597 C hW k_r_40 er_41 dX15_sayMove_68 (fun k_r_41 => ?_)
    refine lv_iload_n C.1 C.2.1 dX15_sayMove_71 rfl (lv_at hl 4 rfl) ?_
    obtain ⟨g_42, hE⟩ := gd_e hE
    refine y_iald C hW k_r_41 g_42 dX15_sayMove_72 ?_
    refine lv_aload_n C.1 C.2.1 dX15_sayMove_73 rfl (lv_at hl 2 rfl) ?_
    refine gf_X15_382 C hW k_x0 dX15_sayMove_74 ?_
    obtain ⟨g_43, hE⟩ := gd_e hE
    refine lv_irem C.1 C.2.1 dX15_sayMove_77 g_43 ?_
    refine lv_icmp_ge (tgt := 255) C.1 C.2.1 dX15_sayMove_78 (by decide) (fun c_44 => ?_) (fun c_44 => ?_)
    · have hE := br_p hE c_44
      exact bX15_sayMove_255 C k_x0 k_x1 hkm hW hZ _ (lv_sub hl [2, 3, 4] rfl) hE
    · have hE := br_n hE c_44
      refine lv_aload_n C.1 C.2.1 dX15_sayMove_81 rfl (lv_at hl 2 rfl) ?_
      refine lv_bipush (v := (45 : Int32)) C.1 C.2.1 dX15_sayMove_82 (by decide) ?_
      obtain ⟨o_45, eo_45, hE⟩ := cl_e hE
      refine x_kV (o := o_45) (z_runV (As := [.int (45 : Int32)]) (rest := []) C (ct_X15_say l X k_x0 eo_45) cw_X15_21 hW hZ k_x0 (by decide) rfl rfl rfl hl.1 (Nat.le_of_ble_eq_true rfl) rfl dX15_sayMove_84 ⟨Nat.le_of_ble_eq_true rfl, Nat.le_of_ble_eq_true rfl⟩ ⟨Nat.le_refl _, Nat.le_refl _⟩) hZ (fun _ _ hW km hZ => ?_)
      replace hkm := hkm.tr km
      replace k_x0 := km.at k_x0 (by decide)
      replace k_x1 := km.at k_x1 (by decide)
      refine lv_aload_n C.1 C.2.1 dX15_sayMove_87 rfl (lv_at hl 2 rfl) ?_
      refine lv_bipush (v := (79 : Int32)) C.1 C.2.1 dX15_sayMove_88 (by decide) ?_
      obtain ⟨o_46, eo_46, hE⟩ := cl_e hE
      refine x_kV (o := o_46) (z_runV (As := [.int (79 : Int32)]) (rest := []) C (ct_X15_say l X k_x0 eo_46) cw_X15_21 hW hZ k_x0 (by decide) rfl rfl rfl hl.1 (Nat.le_of_ble_eq_true rfl) rfl dX15_sayMove_90 ⟨Nat.le_of_ble_eq_true rfl, Nat.le_of_ble_eq_true rfl⟩ ⟨Nat.le_refl _, Nat.le_refl _⟩) hZ (fun _ _ hW km hZ => ?_)
      replace hkm := hkm.tr km
      replace k_x0 := km.at k_x0 (by decide)
      replace k_x1 := km.at k_x1 (by decide)
      refine lv_goto (tgt := 255) C.1 C.2.1 dX15_sayMove_93 (by decide) ?_
      exact bX15_sayMove_255 C k_x0 k_x1 hkm hW hZ _ (lv_sub hl [2, 3, 4] rfl) hE
set_option maxRecDepth 100000 in
theorem ms_189 : Cond.selects RX15 yX15_sayMove yX15_sayMove ∈ W0 := w0_in (List.mem_append_left _ (List.mem_of_getElem? (i := 189) rfl)) rfl
set_option maxRecDepth 100000 in
theorem m_2647 : Cond.methodLink RX15 694 yX15_sayMove ∈ W0 := w0_in (List.mem_append_right _ (List.mem_of_getElem? (i := 2647) rfl)) rfl
set_option maxRecDepth 100000 in
theorem m_2649 : Cond.instanceMethod yX15_sayMove ∈ W0 := w0_in (List.mem_append_right _ (List.mem_of_getElem? (i := 2649) rfl)) rfl
set_option maxRecDepth 100000 in
theorem m_2650 : Cond.code yX15_sayMove cX15_sayMove 6 none ∈ W0 := w0_in (List.mem_append_right _ (List.mem_of_getElem? (i := 2650) rfl)) rfl
theorem cw_X15_694 : cwd RX15 694 yX15_sayMove cX15_sayMove 6 none false 2 := ⟨m_2650, m_2647, m_19, ⟨m_2649, ms_189⟩, by decide, by decide, by decide +kernel⟩
theorem dX15_say__0 : decode cX15_say_ 0 = .ok (.aload_n 0, 1) := by decide +kernel
theorem dX15_say__1 : decode cX15_say_ 1 = .ok (.iload_n 1, 1) := by decide +kernel
theorem dX15_say__2 : decode cX15_say_ 2 = .ok (.invokevirtual 668, 3) := by decide +kernel
theorem dX15_say__5 : decode cX15_say_ 5 = .ok (.bipush (-102), 2) := by decide +kernel
theorem dX15_say__7 : decode cX15_say_ 7 = .ok (.if_icmp .eq 18, 3) := by decide +kernel
theorem dX15_say__10 : decode cX15_say_ 10 = .ok (.iload_n 2, 1) := by decide +kernel
theorem dX15_say__11 : decode cX15_say_ 11 = .ok (.ifCond .lt 14, 3) := by decide +kernel
theorem dX15_say__14 : decode cX15_say_ 14 = .ok (.iload_n 2, 1) := by decide +kernel
theorem dX15_say__15 : decode cX15_say_ 15 = .ok (.aload_n 0, 1) := by decide +kernel
theorem dX15_say__16 : decode cX15_say_ 16 = .ok (.getfield 288, 3) := by decide +kernel
theorem dX15_say__19 : decode cX15_say_ 19 = .ok (.getfield 575, 3) := by decide +kernel
theorem dX15_say__22 : decode cX15_say_ 22 = .ok (.if_icmp .lt 6, 3) := by decide +kernel
theorem dX15_say__25 : decode cX15_say_ 25 = .ok (.bipush (-102), 2) := by decide +kernel
theorem dX15_say__27 : decode cX15_say_ 27 = .ok (.ireturn, 1) := by decide +kernel
theorem dX15_say__28 : decode cX15_say_ 28 = .ok (.aload_n 0, 1) := by decide +kernel
theorem dX15_say__29 : decode cX15_say_ 29 = .ok (.aload_n 0, 1) := by decide +kernel
theorem dX15_say__30 : decode cX15_say_ 30 = .ok (.getfield 257, 3) := by decide +kernel
theorem dX15_say__33 : decode cX15_say_ 33 = .ok (.iload_n 1, 1) := by decide +kernel
theorem dX15_say__34 : decode cX15_say_ 34 = .ok (.aaload, 1) := by decide +kernel
theorem dX15_say__35 : decode cX15_say_ 35 = .ok (.iload_n 2, 1) := by decide +kernel
theorem dX15_say__36 : decode cX15_say_ 36 = .ok (.invokevirtual 694, 3) := by decide +kernel
theorem dX15_say__39 : decode cX15_say_ 39 = .ok (.aload_n 0, 1) := by decide +kernel
theorem dX15_say__40 : decode cX15_say_ 40 = .ok (.getfield 11, 3) := by decide +kernel
theorem dX15_say__43 : decode cX15_say_ 43 = .ok (.ireturn, 1) := by decide +kernel
def sX15_say__25 (F : Nat) (h : Hp) : Option (Int32 × Hp) := some ((-102 : Int32), h)
def sX15_say_ (F : Nat) (h : Hp) (x0 : Nat) (x1 : Int32) (x2 : Int32) : Option (Int32 × Hp) := cl (sX15_moves F h x0 x1) fun o_1 => br (o_1.1 = (-102 : Int32)) (sX15_say__25 F o_1.2 ) (br (x2 < 0) (sX15_say__25 F o_1.2 ) (cl (hR o_1.2 x0 30) fun r_4 => br (x2 < (hI o_1.2 r_4 0)) (cl (hR o_1.2 x0 14) fun r_6 => gd (inB x1 (hN o_1.2 r_6)) <| cl (hR o_1.2 r_6 x1.toNatClampNeg) fun r_8 => cl (sX15_sayMove F o_1.2 x0 r_8 x2) fun o_9 => some (hI o_9 x0 3, o_9)) (sX15_say__25 F o_1.2 )))
set_option maxRecDepth 20000 in
theorem moX15_say__25 {o : Int32 × Hp} {F : Nat} {h : Hp} (hE : sX15_say__25 F h  = some o) : Le h o.2 := by
  exact le_some2 hE
set_option maxRecDepth 20000 in
theorem moX15_say_ {o : Int32 × Hp} {F : Nat} {h : Hp} {x0 : Nat} {x1 : Int32} {x2 : Int32} (hE : sX15_say_ F h x0 x1 x2 = some o) : Le h o.2 := by
  obtain ⟨o_1, eo_1, hE⟩ := cl_e hE
  refine (moX15_moves eo_1).tr ?_
  rcases br_e hE with ⟨_, hE⟩ | ⟨_, hE⟩
  · exact moX15_say__25 hE
  · rcases br_e hE with ⟨_, hE⟩ | ⟨_, hE⟩
    · exact moX15_say__25 hE
    · obtain ⟨r_4, er_4, hE⟩ := cl_e hE
      rcases br_e hE with ⟨_, hE⟩ | ⟨_, hE⟩
      · obtain ⟨r_6, er_6, hE⟩ := cl_e hE
        obtain ⟨g_7, hE⟩ := gd_e hE
        obtain ⟨r_8, er_8, hE⟩ := cl_e hE
        obtain ⟨o_9, eo_9, hE⟩ := cl_e hE
        refine (moX15_sayMove eo_9).tr ?_
        exact le_some2 hE
      · exact moX15_say__25 hE
set_option maxRecDepth 20000 in
theorem bX15_say__25 {p : Program} {l : Launch} {e : Env} {s : State} {m : MethodId} {args : Array Value} {below : List Frame} {meth : Method} {c : Code} {X : Ec} {h0 : Hp} {o : Int32 × Hp} {F : Nat} (C : Cx X p s m args meth c RX15 cX15_say_ 3 (some .int) "say") {h : Hp} {H : Heap} {locs : List Loc} (hkm : Km h0 h) (hW : Wx X h H) (hZ : va_S (aA (eB X)) s.heap H locs) (ls : Array Slot) (hl : lv_has ls 3 []) (hE : sX15_say__25 F h  = some o) : W p l e (rm 8 216) s m args below meth c H locs 0 0 (MQ below (QI X h0 o.1 o.2) args s 0 0 (aA (eB X))) (F0 m 25 ls []) := by
  refine lv_bipush (v := (-102 : Int32)) C.1 C.2.1 dX15_say__25 (by decide) ?_
  exact x_iret C rfl rfl hW hZ hkm hE dX15_say__27
set_option maxRecDepth 20000 in
theorem ct_X15_say_ (l : Launch) (X : Ec) (F : Nat) {h : Hp} {x0 : Nat} {x1 : Int32} {x2 : Int32} {o : Int32 × Hp} (k_x0 : hK h x0 = 15) (hE : sX15_say_ F h x0 x1 x2 = some o) : MetI l yX15_say_ cX15_say_ 3 (some .int) 8 216 X [.ref x0, .int x1, .int x2] h o := by
  refine x_met (by decide) (Nat.le_of_ble_eq_true rfl) ?_
  intro p e s m below meth c ls C hl hW hZ
  have hl : lv_has ls 3 [(0, .ref x0), (1, .int x1), (2, .int x2)] := hl
  have hkm : Km h h := Km.rf h
  refine lv_aload_n C.1 C.2.1 dX15_say__0 rfl (lv_at hl 0 rfl) ?_
  refine lv_iload_n C.1 C.2.1 dX15_say__1 rfl (lv_at hl 1 rfl) ?_
  obtain ⟨o_1, eo_1, hE⟩ := cl_e hE
  refine x_kI (o := o_1) (z_runV (As := [.int x1]) (rest := []) C (ct_X15_moves l X F k_x0 eo_1) cw_X15_668 hW hZ k_x0 (by decide) rfl rfl rfl hl.1 (Nat.le_of_ble_eq_true rfl) rfl dX15_say__2 ⟨Nat.le_of_ble_eq_true rfl, Nat.le_of_ble_eq_true rfl⟩ ⟨Nat.le_refl _, Nat.le_refl _⟩) hZ (fun _ _ hW km hZ => ?_)
  replace hkm := hkm.tr km
  replace k_x0 := km.at k_x0 (by decide)
  refine lv_bipush (v := (-102 : Int32)) C.1 C.2.1 dX15_say__5 (by decide) ?_
  refine lv_icmp_eq (tgt := 25) C.1 C.2.1 dX15_say__7 (by decide) (fun c_2 => ?_) (fun c_2 => ?_)
  · have hE := br_p hE c_2
    exact bX15_say__25 C hkm hW hZ _ (lv_sub hl [] rfl) hE
  · have hE := br_n hE c_2
    refine lv_iload_n C.1 C.2.1 dX15_say__10 rfl (lv_at hl 2 rfl) ?_
    refine lv_if_lt (tgt := 25) C.1 C.2.1 dX15_say__11 (by decide) (fun c_3 => ?_) (fun c_3 => ?_)
    · have hE := br_p hE c_3
      exact bX15_say__25 C hkm hW hZ _ (lv_sub hl [] rfl) hE
    · have hE := br_n hE c_3
      refine lv_iload_n C.1 C.2.1 dX15_say__14 rfl (lv_at hl 2 rfl) ?_
      refine lv_aload_n C.1 C.2.1 dX15_say__15 rfl (lv_at hl 0 rfl) ?_
      obtain ⟨r_4, er_4, hE⟩ := cl_e hE
      refine gf_X15_288 C hW k_x0 er_4 dX15_say__16 (fun k_r_4 => ?_)
      refine gf_X15_575 C hW k_r_4 dX15_say__19 ?_
      refine lv_icmp_lt (tgt := 28) C.1 C.2.1 dX15_say__22 (by decide) (fun c_5 => ?_) (fun c_5 => ?_)
      · have hE := br_p hE c_5
        refine lv_aload_n C.1 C.2.1 dX15_say__28 rfl (lv_at hl 0 rfl) ?_
        refine lv_aload_n C.1 C.2.1 dX15_say__29 rfl (lv_at hl 0 rfl) ?_
        obtain ⟨r_6, er_6, hE⟩ := cl_e hE
        refine gf_X15_257 C hW k_x0 er_6 dX15_say__30 (fun k_r_6 => ?_)
        refine lv_iload_n C.1 C.2.1 dX15_say__33 rfl (lv_at hl 1 rfl) ?_
        obtain ⟨g_7, hE⟩ := gd_e hE
        obtain ⟨r_8, er_8, hE⟩ := cl_e hE
        refine y_aald (t0 := 5) C hW k_r_6 (by decide) (by decide) rfl rfl rfl (fun _ => rfl) g_7 er_8 dX15_say__34 (fun k_r_8 => ?_)
        refine lv_iload_n C.1 C.2.1 dX15_say__35 rfl (lv_at hl 2 rfl) ?_
        obtain ⟨o_9, eo_9, hE⟩ := cl_e hE
        refine x_kV (o := o_9) (z_runV (As := [.ref r_8, .int x2]) (rest := []) C (ct_X15_sayMove l X F k_x0 k_r_8 eo_9) cw_X15_694 hW hZ k_x0 (by decide) rfl rfl rfl hl.1 (Nat.le_of_ble_eq_true rfl) rfl dX15_say__36 ⟨Nat.le_of_ble_eq_true rfl, Nat.le_of_ble_eq_true rfl⟩ ⟨Nat.le_refl _, Nat.le_refl _⟩) hZ (fun _ _ hW km hZ => ?_)
        replace hkm := hkm.tr km
        replace k_x0 := km.at k_x0 (by decide)
        refine lv_aload_n C.1 C.2.1 dX15_say__39 rfl (lv_at hl 0 rfl) ?_
        refine gf_X15_11 C hW k_x0 dX15_say__40 ?_
        exact x_iret C rfl rfl hW hZ hkm hE dX15_say__43
      · have hE := br_n hE c_5
        exact bX15_say__25 C hkm hW hZ _ (lv_sub hl [] rfl) hE
set_option maxRecDepth 100000 in
theorem m_2659 : Cond.methodLink RX15 697 arraycopyName ∈ W0 := w0_in (List.mem_append_right _ (List.mem_of_getElem? (i := 2659) rfl)) rfl
section
variable {p : Program} {l : Launch} {e : Env} {R : Room} {s : State} {m : MethodId} {args : Array Value} {below : List Frame} {meth : Method} {c : Code} {H : Heap} {locs : List Loc} {cells slots : Nat} {Q : State → Prop}
variable {cc : ByteArray} {pc : Nat} {ls : Array Slot} {rest : List Value} {X : Ec} {h h1 : Hp} {nL : Nat} {rt : Option FieldType} {mn : String}
theorem gf_X15_327 {a r : Nat} (C : Cx X p s m args meth c RX15 cc nL rt mn) (hW : Wx X h H) (ha : hK h a = 15) (hr : hR h a 43 = some r) (hdg : decode cc pc = .ok (.getfield 327, 3)) (kk : hK h r = 16 → W p l e R s m args below meth c H locs cells slots Q (F0 m (pc + 3) ls (.ref r :: rest))) : W p l e R s m args below meth c H locs cells slots Q (F0 m pc ls (.ref a :: rest)) :=
  y_getr C hW ha i_X15 (by decide) rfl (by decide) m_2154 rfl rfl hr hdg kk
theorem gf_X15_693 {a : Nat} (C : Cx X p s m args meth c RX15 cc nL rt mn) (hW : Wx X h H) (ha : hK h a = 15) (hdg : decode cc pc = .ok (.getfield 693, 3)) (kk : W p l e R s m args below meth c H locs cells slots Q (F0 m (pc + 3) ls (.int (hI h a 36) :: rest))) : W p l e R s m args below meth c H locs cells slots Q (F0 m pc ls (.ref a :: rest)) :=
  y_geti C hW ha i_X15 (by decide) rfl (by decide) m_2147 rfl hdg kk
end
theorem dX15_hear_0 : decode cX15_hear 0 = .ok (.aload_n 0, 1) := by decide +kernel
theorem dX15_hear_1 : decode cX15_hear 1 = .ok (.getfield 1, 3) := by decide +kernel
theorem dX15_hear_4 : decode cX15_hear 4 = .ok (.istore_n 2, 1) := by decide +kernel
theorem dX15_hear_5 : decode cX15_hear 5 = .ok (.aload_n 0, 1) := by decide +kernel
theorem dX15_hear_6 : decode cX15_hear 6 = .ok (.iconst 0, 1) := by decide +kernel
theorem dX15_hear_7 : decode cX15_hear 7 = .ok (.putfield 1, 3) := by decide +kernel
theorem dX15_hear_10 : decode cX15_hear 10 = .ok (.aload_n 0, 1) := by decide +kernel
theorem dX15_hear_11 : decode cX15_hear 11 = .ok (.iload_n 1, 1) := by decide +kernel
theorem dX15_hear_12 : decode cX15_hear 12 = .ok (.invokevirtual 668, 3) := by decide +kernel
theorem dX15_hear_15 : decode cX15_hear 15 = .ok (.bipush (-102), 2) := by decide +kernel
theorem dX15_hear_17 : decode cX15_hear 17 = .ok (.if_icmp .ne 6, 3) := by decide +kernel
theorem dX15_hear_20 : decode cX15_hear 20 = .ok (.bipush (-102), 2) := by decide +kernel
theorem dX15_hear_22 : decode cX15_hear 22 = .ok (.ireturn, 1) := by decide +kernel
theorem dX15_hear_23 : decode cX15_hear 23 = .ok (.aload_n 0, 1) := by decide +kernel
theorem dX15_hear_24 : decode cX15_hear 24 = .ok (.getfield 11, 3) := by decide +kernel
theorem dX15_hear_27 : decode cX15_hear 27 = .ok (.istore_n 3, 1) := by decide +kernel
theorem dX15_hear_28 : decode cX15_hear 28 = .ok (.aload_n 0, 1) := by decide +kernel
theorem dX15_hear_29 : decode cX15_hear 29 = .ok (.getfield 14, 3) := by decide +kernel
theorem dX15_hear_32 : decode cX15_hear 32 = .ok (.iconst 0, 1) := by decide +kernel
theorem dX15_hear_33 : decode cX15_hear 33 = .ok (.aload_n 0, 1) := by decide +kernel
theorem dX15_hear_34 : decode cX15_hear 34 = .ok (.getfield 327, 3) := by decide +kernel
theorem dX15_hear_37 : decode cX15_hear 37 = .ok (.iconst 0, 1) := by decide +kernel
theorem dX15_hear_38 : decode cX15_hear 38 = .ok (.iload_n 3, 1) := by decide +kernel
theorem dX15_hear_39 : decode cX15_hear 39 = .ok (.invokestatic 697, 3) := by decide +kernel
theorem dX15_hear_42 : decode cX15_hear 42 = .ok (.iconst (-1), 1) := by decide +kernel
theorem dX15_hear_43 : decode cX15_hear 43 = .ok (.istore 4, 2) := by decide +kernel
theorem dX15_hear_45 : decode cX15_hear 45 = .ok (.iconst 0, 1) := by decide +kernel
theorem dX15_hear_46 : decode cX15_hear 46 = .ok (.istore 5, 2) := by decide +kernel
theorem dX15_hear_48 : decode cX15_hear 48 = .ok (.iload 5, 2) := by decide +kernel
theorem dX15_hear_50 : decode cX15_hear 50 = .ok (.aload_n 0, 1) := by decide +kernel
theorem dX15_hear_51 : decode cX15_hear 51 = .ok (.getfield 288, 3) := by decide +kernel
theorem dX15_hear_54 : decode cX15_hear 54 = .ok (.getfield 575, 3) := by decide +kernel
theorem dX15_hear_57 : decode cX15_hear 57 = .ok (.if_icmp .ge 107, 3) := by decide +kernel
theorem dX15_hear_60 : decode cX15_hear 60 = .ok (.iload 4, 2) := by decide +kernel
theorem dX15_hear_62 : decode cX15_hear 62 = .ok (.iconst (-1), 1) := by decide +kernel
theorem dX15_hear_63 : decode cX15_hear 63 = .ok (.if_icmp .ne 101, 3) := by decide +kernel
theorem dX15_hear_66 : decode cX15_hear 66 = .ok (.aload_n 0, 1) := by decide +kernel
theorem dX15_hear_67 : decode cX15_hear 67 = .ok (.aload_n 0, 1) := by decide +kernel
theorem dX15_hear_68 : decode cX15_hear 68 = .ok (.getfield 257, 3) := by decide +kernel
theorem dX15_hear_71 : decode cX15_hear 71 = .ok (.iload_n 1, 1) := by decide +kernel
theorem dX15_hear_72 : decode cX15_hear 72 = .ok (.aaload, 1) := by decide +kernel
theorem dX15_hear_73 : decode cX15_hear 73 = .ok (.iload 5, 2) := by decide +kernel
theorem dX15_hear_75 : decode cX15_hear 75 = .ok (.invokevirtual 694, 3) := by decide +kernel
theorem dX15_hear_78 : decode cX15_hear 78 = .ok (.iload_n 2, 1) := by decide +kernel
theorem dX15_hear_79 : decode cX15_hear 79 = .ok (.aload_n 0, 1) := by decide +kernel
theorem dX15_hear_80 : decode cX15_hear 80 = .ok (.getfield 11, 3) := by decide +kernel
theorem dX15_hear_83 : decode cX15_hear 83 = .ok (.if_icmp .eq 11, 3) := by decide +kernel
theorem dX15_hear_86 : decode cX15_hear 86 = .ok (.iload_n 2, 1) := by decide +kernel
theorem dX15_hear_87 : decode cX15_hear 87 = .ok (.aload_n 0, 1) := by decide +kernel
theorem dX15_hear_88 : decode cX15_hear 88 = .ok (.getfield 693, 3) := by decide +kernel
theorem dX15_hear_91 : decode cX15_hear 91 = .ok (.if_icmp .ne 7, 3) := by decide +kernel
theorem dX15_hear_94 : decode cX15_hear 94 = .ok (.iconst 1, 1) := by decide +kernel
theorem dX15_hear_95 : decode cX15_hear 95 = .ok (.goto 4, 3) := by decide +kernel
theorem dX15_hear_98 : decode cX15_hear 98 = .ok (.iconst 0, 1) := by decide +kernel
theorem dX15_hear_99 : decode cX15_hear 99 = .ok (.istore 6, 2) := by decide +kernel
theorem dX15_hear_101 : decode cX15_hear 101 = .ok (.iconst 0, 1) := by decide +kernel
theorem dX15_hear_102 : decode cX15_hear 102 = .ok (.istore 7, 2) := by decide +kernel
theorem dX15_hear_104 : decode cX15_hear 104 = .ok (.iload 7, 2) := by decide +kernel
theorem dX15_hear_106 : decode cX15_hear 106 = .ok (.iload_n 2, 1) := by decide +kernel
theorem dX15_hear_107 : decode cX15_hear 107 = .ok (.if_icmp .ge 38, 3) := by decide +kernel
theorem dX15_hear_110 : decode cX15_hear 110 = .ok (.iload 6, 2) := by decide +kernel
theorem dX15_hear_112 : decode cX15_hear 112 = .ok (.ifCond .eq 33, 3) := by decide +kernel
theorem dX15_hear_115 : decode cX15_hear 115 = .ok (.aload_n 0, 1) := by decide +kernel
theorem dX15_hear_116 : decode cX15_hear 116 = .ok (.getfield 7, 3) := by decide +kernel
theorem dX15_hear_119 : decode cX15_hear 119 = .ok (.iload 7, 2) := by decide +kernel
theorem dX15_hear_121 : decode cX15_hear 121 = .ok (.baload, 1) := by decide +kernel
theorem dX15_hear_122 : decode cX15_hear 122 = .ok (.aload_n 0, 1) := by decide +kernel
theorem dX15_hear_123 : decode cX15_hear 123 = .ok (.getfield 14, 3) := by decide +kernel
theorem dX15_hear_126 : decode cX15_hear 126 = .ok (.iload 7, 2) := by decide +kernel
theorem dX15_hear_128 : decode cX15_hear 128 = .ok (.baload, 1) := by decide +kernel
theorem dX15_hear_129 : decode cX15_hear 129 = .ok (.if_icmp .ne 7, 3) := by decide +kernel
theorem dX15_hear_132 : decode cX15_hear 132 = .ok (.iconst 1, 1) := by decide +kernel
theorem dX15_hear_133 : decode cX15_hear 133 = .ok (.goto 4, 3) := by decide +kernel
theorem dX15_hear_136 : decode cX15_hear 136 = .ok (.iconst 0, 1) := by decide +kernel
theorem dX15_hear_137 : decode cX15_hear 137 = .ok (.istore 6, 2) := by decide +kernel
theorem dX15_hear_139 : decode cX15_hear 139 = .ok (.iinc 7 1, 3) := by decide +kernel
theorem dX15_hear_142 : decode cX15_hear 142 = .ok (.goto (-38), 3) := by decide +kernel
theorem dX15_hear_145 : decode cX15_hear 145 = .ok (.iload 6, 2) := by decide +kernel
theorem dX15_hear_147 : decode cX15_hear 147 = .ok (.ifCond .eq 8, 3) := by decide +kernel
theorem dX15_hear_150 : decode cX15_hear 150 = .ok (.iload 5, 2) := by decide +kernel
theorem dX15_hear_152 : decode cX15_hear 152 = .ok (.goto 4, 3) := by decide +kernel
theorem dX15_hear_155 : decode cX15_hear 155 = .ok (.iconst (-1), 1) := by decide +kernel
theorem dX15_hear_156 : decode cX15_hear 156 = .ok (.istore 4, 2) := by decide +kernel
theorem dX15_hear_158 : decode cX15_hear 158 = .ok (.iinc 5 1, 3) := by decide +kernel
theorem dX15_hear_161 : decode cX15_hear 161 = .ok (.goto (-113), 3) := by decide +kernel
theorem dX15_hear_164 : decode cX15_hear 164 = .ok (.aload_n 0, 1) := by decide +kernel
theorem dX15_hear_165 : decode cX15_hear 165 = .ok (.getfield 327, 3) := by decide +kernel
theorem dX15_hear_168 : decode cX15_hear 168 = .ok (.iconst 0, 1) := by decide +kernel
theorem dX15_hear_169 : decode cX15_hear 169 = .ok (.aload_n 0, 1) := by decide +kernel
theorem dX15_hear_170 : decode cX15_hear 170 = .ok (.getfield 14, 3) := by decide +kernel
theorem dX15_hear_173 : decode cX15_hear 173 = .ok (.iconst 0, 1) := by decide +kernel
theorem dX15_hear_174 : decode cX15_hear 174 = .ok (.iload_n 3, 1) := by decide +kernel
theorem dX15_hear_175 : decode cX15_hear 175 = .ok (.invokestatic 697, 3) := by decide +kernel
theorem dX15_hear_178 : decode cX15_hear 178 = .ok (.aload_n 0, 1) := by decide +kernel
theorem dX15_hear_179 : decode cX15_hear 179 = .ok (.iload_n 3, 1) := by decide +kernel
theorem dX15_hear_180 : decode cX15_hear 180 = .ok (.putfield 11, 3) := by decide +kernel
theorem dX15_hear_183 : decode cX15_hear 183 = .ok (.iload 4, 2) := by decide +kernel
theorem dX15_hear_185 : decode cX15_hear 185 = .ok (.ireturn, 1) := by decide +kernel
def sX15_hear_164 (F : Nat) (h : Hp) (x0 : Nat) (x3 : Int32) (x4 : Int32) : Option (Int32 × Hp) := cl (hR h x0 43) fun r_1 => cl (hR h x0 2) fun r_2 => gd (¬ (0 : Int32) < 0) <| gd (¬ (0 : Int32) < 0) <| gd (¬ x3 < 0) <| gd ((0 : Int32).toNatClampNeg + x3.toNatClampNeg ≤ hN h r_1) <| gd ((0 : Int32).toNatClampNeg + x3.toNatClampNeg ≤ hN h r_2) <| gd (∀ i, i < x3.toNatClampNeg → fits .byte (.int (hI h r_1 ((0 : Int32).toNatClampNeg + i))) = true) <| nm (cpI h r_1 (0 : Int32).toNatClampNeg r_2 (0 : Int32).toNatClampNeg x3.toNatClampNeg) fun h_9 => nm (wI h_9 x0 3 x3) fun h_10 => some (x4, h_10)
def sX15_hear_156 (F : Nat) (k_48 : Hp → Nat → Int32 → Int32 → Int32 → Int32 → Int32 → Option (Int32 × Hp)) (h : Hp) (x0 : Nat) (x1 : Int32) (x2 : Int32) (x3 : Int32) (x5 : Int32) (t0 : Int32) : Option (Int32 × Hp) := nm (x5 + (1 : Int32)) fun v_1 => k_48 h x0 x1 x2 x3 t0 v_1
def sX15_hear_145 (F : Nat) (k_48 : Hp → Nat → Int32 → Int32 → Int32 → Int32 → Int32 → Option (Int32 × Hp)) (h : Hp) (x0 : Nat) (x1 : Int32) (x2 : Int32) (x3 : Int32) (x5 : Int32) (x6 : Int32) : Option (Int32 × Hp) := br (x6 = 0) (sX15_hear_156 F k_48 h x0 x1 x2 x3 x5 (-1 : Int32)) (sX15_hear_156 F k_48 h x0 x1 x2 x3 x5 x5)
def sX15_hear_137 (F : Nat) (k_48 : Hp → Nat → Int32 → Int32 → Int32 → Int32 → Int32 → Option (Int32 × Hp)) (k_104 : Hp → Nat → Int32 → Int32 → Int32 → Int32 → Int32 → Int32 → Option (Int32 × Hp)) (h : Hp) (x0 : Nat) (x1 : Int32) (x2 : Int32) (x3 : Int32) (x5 : Int32) (x7 : Int32) (t0 : Int32) : Option (Int32 × Hp) := nm (x7 + (1 : Int32)) fun v_1 => k_104 h x0 x1 x2 x3 x5 t0 v_1
def sX15_hear_104 (F : Nat) (k_48 : Hp → Nat → Int32 → Int32 → Int32 → Int32 → Int32 → Option (Int32 × Hp)) : Nat → Hp → Nat → Int32 → Int32 → Int32 → Int32 → Int32 → Int32 → Option (Int32 × Hp)
  | 0, _, _, _, _, _, _, _, _ => none
  | f + 1, h, x0, x1, x2, x3, x5, x6, x7 => br (x2 ≤ x7) (sX15_hear_145 F k_48 h x0 x1 x2 x3 x5 x6) (br (x6 = 0) (sX15_hear_145 F k_48 h x0 x1 x2 x3 x5 x6) (cl (hR h x0 0) fun r_3 => gd (inB x7 (hN h r_3)) <| cl (hR h x0 2) fun r_5 => gd (inB x7 (hN h r_5)) <| br ((hI h r_3 x7.toNatClampNeg) = (hI h r_5 x7.toNatClampNeg)) (sX15_hear_137 F k_48 (sX15_hear_104 F k_48 f) h x0 x1 x2 x3 x5 x7 (1 : Int32)) (sX15_hear_137 F k_48 (sX15_hear_104 F k_48 f) h x0 x1 x2 x3 x5 x7 (0 : Int32))))
def sX15_hear_99 (F : Nat) (k_48 : Hp → Nat → Int32 → Int32 → Int32 → Int32 → Int32 → Option (Int32 × Hp)) (h : Hp) (x0 : Nat) (x1 : Int32) (x2 : Int32) (x3 : Int32) (x5 : Int32) (t0 : Int32) : Option (Int32 × Hp) := sX15_hear_104 F k_48 F h x0 x1 x2 x3 x5 t0 (0 : Int32)
def sX15_hear_94 (F : Nat) (k_48 : Hp → Nat → Int32 → Int32 → Int32 → Int32 → Int32 → Option (Int32 × Hp)) (h : Hp) (x0 : Nat) (x1 : Int32) (x2 : Int32) (x3 : Int32) (x5 : Int32) : Option (Int32 × Hp) := sX15_hear_99 F k_48 h x0 x1 x2 x3 x5 (1 : Int32)
def sX15_hear_48 (F : Nat) : Nat → Hp → Nat → Int32 → Int32 → Int32 → Int32 → Int32 → Option (Int32 × Hp)
  | 0, _, _, _, _, _, _, _ => none
  | f + 1, h, x0, x1, x2, x3, x4, x5 => cl (hR h x0 30) fun r_1 => br ((hI h r_1 0) ≤ x5) (sX15_hear_164 F h x0 x3 x4) (br (x4 = (-1 : Int32)) (cl (hR h x0 14) fun r_4 => gd (inB x1 (hN h r_4)) <| cl (hR h r_4 x1.toNatClampNeg) fun r_6 => cl (sX15_sayMove F h x0 r_6 x5) fun o_7 => br (x2 = (hI o_7 x0 3)) (sX15_hear_94 F (sX15_hear_48 F f) o_7 x0 x1 x2 x3 x5) (br (x2 = (hI o_7 x0 36)) (sX15_hear_94 F (sX15_hear_48 F f) o_7 x0 x1 x2 x3 x5) (sX15_hear_99 F (sX15_hear_48 F f) o_7 x0 x1 x2 x3 x5 (0 : Int32)))) (sX15_hear_164 F h x0 x3 x4))
def sX15_hear (F : Nat) (h : Hp) (x0 : Nat) (x1 : Int32) : Option (Int32 × Hp) := nm (hI h x0 1) fun v_1 => nm (wI h x0 1 (0 : Int32)) fun h_2 => cl (sX15_moves F h_2 x0 x1) fun o_3 => br (o_3.1 = (-102 : Int32)) (some ((-102 : Int32), o_3.2)) (nm (hI o_3.2 x0 3) fun v_5 => cl (hR o_3.2 x0 2) fun r_6 => cl (hR o_3.2 x0 43) fun r_7 => gd (¬ (0 : Int32) < 0) <| gd (¬ (0 : Int32) < 0) <| gd (¬ v_5 < 0) <| gd ((0 : Int32).toNatClampNeg + v_5.toNatClampNeg ≤ hN o_3.2 r_6) <| gd ((0 : Int32).toNatClampNeg + v_5.toNatClampNeg ≤ hN o_3.2 r_7) <| gd (∀ i, i < v_5.toNatClampNeg → fits .byte (.int (hI o_3.2 r_6 ((0 : Int32).toNatClampNeg + i))) = true) <| nm (cpI o_3.2 r_6 (0 : Int32).toNatClampNeg r_7 (0 : Int32).toNatClampNeg v_5.toNatClampNeg) fun h_14 => sX15_hear_48 F F h_14 x0 x1 v_1 v_5 (-1 : Int32) (0 : Int32))
set_option maxRecDepth 20000 in
theorem moX15_hear_164 {o : Int32 × Hp} {F : Nat} {h : Hp} {x0 : Nat} {x3 : Int32} {x4 : Int32} (hE : sX15_hear_164 F h x0 x3 x4 = some o) : Le h o.2 := by
  obtain ⟨r_1, er_1, hE⟩ := cl_e hE
  obtain ⟨r_2, er_2, hE⟩ := cl_e hE
  obtain ⟨g_3, hE⟩ := gd_e hE
  obtain ⟨g_4, hE⟩ := gd_e hE
  obtain ⟨g_5, hE⟩ := gd_e hE
  obtain ⟨g_6, hE⟩ := gd_e hE
  obtain ⟨g_7, hE⟩ := gd_e hE
  obtain ⟨g_8, hE⟩ := gd_e hE
  obtain ⟨h_9, eh_9, hE⟩ := nm_e2 hE
  refine (le_cI eh_9).tr ?_
  obtain ⟨h_10, eh_10, hE⟩ := nm_e2 hE
  refine (le_I eh_10).tr ?_
  exact le_some2 hE
set_option maxRecDepth 20000 in
theorem moX15_hear_156 {o : Int32 × Hp} {k_48 : Hp → Nat → Int32 → Int32 → Int32 → Int32 → Int32 → Option (Int32 × Hp)} {F : Nat} (mk_48 : ∀ (h : Hp) (x0 : Nat) (x1 : Int32) (x2 : Int32) (x3 : Int32) (x4 : Int32) (x5 : Int32), k_48 h x0 x1 x2 x3 x4 x5 = some o → Le h o.2) {h : Hp} {x0 : Nat} {x1 : Int32} {x2 : Int32} {x3 : Int32} {x5 : Int32} {t0 : Int32} (hE : sX15_hear_156 F k_48 h x0 x1 x2 x3 x5 t0 = some o) : Le h o.2 := by
  obtain ⟨v_1, ev_1, hE⟩ := nm_e2 hE
  exact mk_48 _ _ _ _ _ _ _ hE
set_option maxRecDepth 20000 in
theorem moX15_hear_145 {o : Int32 × Hp} {k_48 : Hp → Nat → Int32 → Int32 → Int32 → Int32 → Int32 → Option (Int32 × Hp)} {F : Nat} (mk_48 : ∀ (h : Hp) (x0 : Nat) (x1 : Int32) (x2 : Int32) (x3 : Int32) (x4 : Int32) (x5 : Int32), k_48 h x0 x1 x2 x3 x4 x5 = some o → Le h o.2) {h : Hp} {x0 : Nat} {x1 : Int32} {x2 : Int32} {x3 : Int32} {x5 : Int32} {x6 : Int32} (hE : sX15_hear_145 F k_48 h x0 x1 x2 x3 x5 x6 = some o) : Le h o.2 := by
  rcases br_e hE with ⟨_, hE⟩ | ⟨_, hE⟩
  · exact moX15_hear_156 mk_48 hE
  · exact moX15_hear_156 mk_48 hE
set_option maxRecDepth 20000 in
theorem moX15_hear_137 {o : Int32 × Hp} {k_48 : Hp → Nat → Int32 → Int32 → Int32 → Int32 → Int32 → Option (Int32 × Hp)} {k_104 : Hp → Nat → Int32 → Int32 → Int32 → Int32 → Int32 → Int32 → Option (Int32 × Hp)} {F : Nat} (mk_48 : ∀ (h : Hp) (x0 : Nat) (x1 : Int32) (x2 : Int32) (x3 : Int32) (x4 : Int32) (x5 : Int32), k_48 h x0 x1 x2 x3 x4 x5 = some o → Le h o.2) (mk_104 : ∀ (h : Hp) (x0 : Nat) (x1 : Int32) (x2 : Int32) (x3 : Int32) (x5 : Int32) (x6 : Int32) (x7 : Int32), k_104 h x0 x1 x2 x3 x5 x6 x7 = some o → Le h o.2) {h : Hp} {x0 : Nat} {x1 : Int32} {x2 : Int32} {x3 : Int32} {x5 : Int32} {x7 : Int32} {t0 : Int32} (hE : sX15_hear_137 F k_48 k_104 h x0 x1 x2 x3 x5 x7 t0 = some o) : Le h o.2 := by
  obtain ⟨v_1, ev_1, hE⟩ := nm_e2 hE
  exact mk_104 _ _ _ _ _ _ _ _ hE
set_option maxRecDepth 20000 in
theorem moX15_hear_104 {o : Int32 × Hp} {k_48 : Hp → Nat → Int32 → Int32 → Int32 → Int32 → Int32 → Option (Int32 × Hp)} {F : Nat} (mk_48 : ∀ (h : Hp) (x0 : Nat) (x1 : Int32) (x2 : Int32) (x3 : Int32) (x4 : Int32) (x5 : Int32), k_48 h x0 x1 x2 x3 x4 x5 = some o → Le h o.2) : ∀ (f : Nat) {h : Hp} {x0 : Nat} {x1 : Int32} {x2 : Int32} {x3 : Int32} {x5 : Int32} {x6 : Int32} {x7 : Int32}, sX15_hear_104 F k_48 f h x0 x1 x2 x3 x5 x6 x7 = some o → Le h o.2 := by
  intro f
  induction f with
  | zero =>
    intro h x0 x1 x2 x3 x5 x6 x7 hE
    rw [sX15_hear_104] at hE
    cases hE
  | succ f ih =>
    intro h x0 x1 x2 x3 x5 x6 x7 hE
    rw [sX15_hear_104] at hE
    have mk_104 : ∀ (h : Hp) (x0 : Nat) (x1 : Int32) (x2 : Int32) (x3 : Int32) (x5 : Int32) (x6 : Int32) (x7 : Int32), sX15_hear_104 F k_48 f h x0 x1 x2 x3 x5 x6 x7 = some o → Le h o.2 := fun h x0 x1 x2 x3 x5 x6 x7 hE => ih hE
    rcases br_e hE with ⟨_, hE⟩ | ⟨_, hE⟩
    · exact moX15_hear_145 mk_48 hE
    · rcases br_e hE with ⟨_, hE⟩ | ⟨_, hE⟩
      · exact moX15_hear_145 mk_48 hE
      · obtain ⟨r_3, er_3, hE⟩ := cl_e hE
        obtain ⟨g_4, hE⟩ := gd_e hE
        obtain ⟨r_5, er_5, hE⟩ := cl_e hE
        obtain ⟨g_6, hE⟩ := gd_e hE
        rcases br_e hE with ⟨_, hE⟩ | ⟨_, hE⟩
        · exact moX15_hear_137 mk_48 mk_104 hE
        · exact moX15_hear_137 mk_48 mk_104 hE
set_option maxRecDepth 20000 in
theorem moX15_hear_99 {o : Int32 × Hp} {k_48 : Hp → Nat → Int32 → Int32 → Int32 → Int32 → Int32 → Option (Int32 × Hp)} {F : Nat} (mk_48 : ∀ (h : Hp) (x0 : Nat) (x1 : Int32) (x2 : Int32) (x3 : Int32) (x4 : Int32) (x5 : Int32), k_48 h x0 x1 x2 x3 x4 x5 = some o → Le h o.2) {h : Hp} {x0 : Nat} {x1 : Int32} {x2 : Int32} {x3 : Int32} {x5 : Int32} {t0 : Int32} (hE : sX15_hear_99 F k_48 h x0 x1 x2 x3 x5 t0 = some o) : Le h o.2 := by
  exact moX15_hear_104 mk_48 _ hE
set_option maxRecDepth 20000 in
theorem moX15_hear_94 {o : Int32 × Hp} {k_48 : Hp → Nat → Int32 → Int32 → Int32 → Int32 → Int32 → Option (Int32 × Hp)} {F : Nat} (mk_48 : ∀ (h : Hp) (x0 : Nat) (x1 : Int32) (x2 : Int32) (x3 : Int32) (x4 : Int32) (x5 : Int32), k_48 h x0 x1 x2 x3 x4 x5 = some o → Le h o.2) {h : Hp} {x0 : Nat} {x1 : Int32} {x2 : Int32} {x3 : Int32} {x5 : Int32} (hE : sX15_hear_94 F k_48 h x0 x1 x2 x3 x5 = some o) : Le h o.2 := by
  exact moX15_hear_99 mk_48 hE
set_option maxRecDepth 20000 in
theorem moX15_hear_48 {o : Int32 × Hp} {F : Nat} : ∀ (f : Nat) {h : Hp} {x0 : Nat} {x1 : Int32} {x2 : Int32} {x3 : Int32} {x4 : Int32} {x5 : Int32}, sX15_hear_48 F f h x0 x1 x2 x3 x4 x5 = some o → Le h o.2 := by
  intro f
  induction f with
  | zero =>
    intro h x0 x1 x2 x3 x4 x5 hE
    rw [sX15_hear_48] at hE
    cases hE
  | succ f ih =>
    intro h x0 x1 x2 x3 x4 x5 hE
    rw [sX15_hear_48] at hE
    have mk_48 : ∀ (h : Hp) (x0 : Nat) (x1 : Int32) (x2 : Int32) (x3 : Int32) (x4 : Int32) (x5 : Int32), sX15_hear_48 F f h x0 x1 x2 x3 x4 x5 = some o → Le h o.2 := fun h x0 x1 x2 x3 x4 x5 hE => ih hE
    obtain ⟨r_1, er_1, hE⟩ := cl_e hE
    rcases br_e hE with ⟨_, hE⟩ | ⟨_, hE⟩
    · exact moX15_hear_164 hE
    · rcases br_e hE with ⟨_, hE⟩ | ⟨_, hE⟩
      · obtain ⟨r_4, er_4, hE⟩ := cl_e hE
        obtain ⟨g_5, hE⟩ := gd_e hE
        obtain ⟨r_6, er_6, hE⟩ := cl_e hE
        obtain ⟨o_7, eo_7, hE⟩ := cl_e hE
        refine (moX15_sayMove eo_7).tr ?_
        rcases br_e hE with ⟨_, hE⟩ | ⟨_, hE⟩
        · exact moX15_hear_94 mk_48 hE
        · rcases br_e hE with ⟨_, hE⟩ | ⟨_, hE⟩
          · exact moX15_hear_94 mk_48 hE
          · exact moX15_hear_99 mk_48 hE
      · exact moX15_hear_164 hE
set_option maxRecDepth 20000 in
theorem moX15_hear {o : Int32 × Hp} {F : Nat} {h : Hp} {x0 : Nat} {x1 : Int32} (hE : sX15_hear F h x0 x1 = some o) : Le h o.2 := by
  obtain ⟨v_1, ev_1, hE⟩ := nm_e2 hE
  obtain ⟨h_2, eh_2, hE⟩ := nm_e2 hE
  refine (le_I eh_2).tr ?_
  obtain ⟨o_3, eo_3, hE⟩ := cl_e hE
  refine (moX15_moves eo_3).tr ?_
  rcases br_e hE with ⟨_, hE⟩ | ⟨_, hE⟩
  · exact le_some2 hE
  · obtain ⟨v_5, ev_5, hE⟩ := nm_e2 hE
    obtain ⟨r_6, er_6, hE⟩ := cl_e hE
    obtain ⟨r_7, er_7, hE⟩ := cl_e hE
    obtain ⟨g_8, hE⟩ := gd_e hE
    obtain ⟨g_9, hE⟩ := gd_e hE
    obtain ⟨g_10, hE⟩ := gd_e hE
    obtain ⟨g_11, hE⟩ := gd_e hE
    obtain ⟨g_12, hE⟩ := gd_e hE
    obtain ⟨g_13, hE⟩ := gd_e hE
    obtain ⟨h_14, eh_14, hE⟩ := nm_e2 hE
    refine (le_cI eh_14).tr ?_
    exact moX15_hear_48 _ hE
set_option maxRecDepth 20000 in
theorem bX15_hear_164 {p : Program} {l : Launch} {e : Env} {s : State} {m : MethodId} {args : Array Value} {below : List Frame} {meth : Method} {c : Code} {X : Ec} {h0 : Hp} {o : Int32 × Hp} {F : Nat} (C : Cx X p s m args meth c RX15 cX15_hear 8 (some .int) "hear") {h : Hp} {x0 : Nat} {x3 : Int32} {x4 : Int32} {H : Heap} {locs : List Loc} (k_x0 : hK h x0 = 15) (hkm : Km h0 h) (hW : Wx X h H) (hZ : va_S (aA (eB X)) s.heap H locs) (ls : Array Slot) (hl : lv_has ls 8 [(0, .ref x0), (3, .int x3), (4, .int x4)]) (hE : sX15_hear_164 F h x0 x3 x4 = some o) : W p l e (rm 8 216) s m args below meth c H locs 0 0 (MQ below (QI X h0 o.1 o.2) args s 0 0 (aA (eB X))) (F0 m 164 ls []) := by
  refine lv_aload_n C.1 C.2.1 dX15_hear_164 rfl (lv_at hl 0 rfl) ?_
  obtain ⟨r_1, er_1, hE⟩ := cl_e hE
  refine gf_X15_327 C hW k_x0 er_1 dX15_hear_165 (fun k_r_1 => ?_)
  refine lv_iconst (v := (0 : Int32)) C.1 C.2.1 dX15_hear_168 (by decide) ?_
  refine lv_aload_n C.1 C.2.1 dX15_hear_169 rfl (lv_at hl 0 rfl) ?_
  obtain ⟨r_2, er_2, hE⟩ := cl_e hE
  refine gf_X15_14 C hW k_x0 er_2 dX15_hear_170 (fun k_r_2 => ?_)
  refine lv_iconst (v := (0 : Int32)) C.1 C.2.1 dX15_hear_173 (by decide) ?_
  refine lv_iload_n C.1 C.2.1 dX15_hear_174 rfl (lv_at hl 1 rfl) ?_
  obtain ⟨g_3, hE⟩ := gd_e hE
  obtain ⟨g_4, hE⟩ := gd_e hE
  obtain ⟨g_5, hE⟩ := gd_e hE
  obtain ⟨g_6, hE⟩ := gd_e hE
  obtain ⟨g_7, hE⟩ := gd_e hE
  obtain ⟨g_8, hE⟩ := gd_e hE
  obtain ⟨h_9, eh_9, hE⟩ := nm_e2 hE
  refine y_cpyI (ty := .byte) C hW hZ hl.1 m_2659 m_1235 m_1234 m_23 k_r_1 k_r_2 (Or.inl ⟨rfl, rfl⟩) g_3 g_4 g_5 g_6 g_7 g_8 (Nat.le_of_ble_eq_true rfl) (Nat.le_of_ble_eq_true rfl) eh_9 dX15_hear_175 (fun _ _ hW km hZ => ?_)
  replace hkm := hkm.tr km
  replace k_x0 := km.at k_x0 (by decide)
  refine lv_aload_n C.1 C.2.1 dX15_hear_178 rfl (lv_at hl 0 rfl) ?_
  refine lv_iload_n C.1 C.2.1 dX15_hear_179 rfl (lv_at hl 1 rfl) ?_
  obtain ⟨h_10, eh_10, hE⟩ := nm_e2 hE
  refine pf_X15_11 C hW hZ k_x0 eh_10 dX15_hear_180 (fun _ _ hW km hZ => ?_)
  replace hkm := hkm.tr km
  replace k_x0 := km.at k_x0 (by decide)
  refine lv_iload C.1 C.2.1 dX15_hear_183 (lv_at hl 2 rfl) ?_
  exact x_iret C rfl rfl hW hZ hkm hE dX15_hear_185
set_option maxRecDepth 20000 in
theorem bX15_hear_156 {p : Program} {l : Launch} {e : Env} {s : State} {m : MethodId} {args : Array Value} {below : List Frame} {meth : Method} {c : Code} {X : Ec} {h0 : Hp} {o : Int32 × Hp} {k_48 : Hp → Nat → Int32 → Int32 → Int32 → Int32 → Int32 → Option (Int32 × Hp)} {F : Nat} (C : Cx X p s m args meth c RX15 cX15_hear 8 (some .int) "hear") (hk_48 : ∀ (h : Hp) (x0 : Nat) (x1 : Int32) (x2 : Int32) (x3 : Int32) (x4 : Int32) (x5 : Int32) (H : Heap) (locs : List Loc), hK h x0 = 15 → Km h0 h → Wx X h H → va_S (aA (eB X)) s.heap H locs → ∀ (ls : Array Slot), lv_has ls 8 [(0, .ref x0), (1, .int x1), (2, .int x2), (3, .int x3), (4, .int x4), (5, .int x5)] → k_48 h x0 x1 x2 x3 x4 x5 = some o → W p l e (rm 8 216) s m args below meth c H locs 0 0 (MQ below (QI X h0 o.1 o.2) args s 0 0 (aA (eB X))) (F0 m 48 ls [])) {h : Hp} {x0 : Nat} {x1 : Int32} {x2 : Int32} {x3 : Int32} {x5 : Int32} {t0 : Int32} {H : Heap} {locs : List Loc} (k_x0 : hK h x0 = 15) (hkm : Km h0 h) (hW : Wx X h H) (hZ : va_S (aA (eB X)) s.heap H locs) (ls : Array Slot) (hl : lv_has ls 8 [(0, .ref x0), (1, .int x1), (2, .int x2), (3, .int x3), (5, .int x5)]) (hE : sX15_hear_156 F k_48 h x0 x1 x2 x3 x5 t0 = some o) : W p l e (rm 8 216) s m args below meth c H locs 0 0 (MQ below (QI X h0 o.1 o.2) args s 0 0 (aA (eB X))) (F0 m 156 ls [.int t0]) := by
  refine lv_istore (lv' := [(4, .int t0), (0, .ref x0), (1, .int x1), (2, .int x2), (3, .int x3), (5, .int x5)]) C.1 C.2.1 dX15_hear_156 hl (by decide) rfl (fun ls hl => ?_)
  obtain ⟨v_1, ev_1, hE⟩ := nm_e2 hE
  refine lv_iinc (v := v_1) (lv' := [(5, .int v_1), (4, .int t0), (0, .ref x0), (1, .int x1), (2, .int x2), (3, .int x3)]) C.1 C.2.1 dX15_hear_158 hl (k := 5) rfl (by rw [ev_1]; rfl) (by decide) rfl (fun ls hl => ?_)
  refine lv_goto (tgt := 48) C.1 C.2.1 dX15_hear_161 (by decide) ?_
  exact hk_48 _ _ _ _ _ _ _ _ _ k_x0 hkm hW hZ _ (lv_sub hl [2, 3, 4, 5, 1, 0] rfl) hE
set_option maxRecDepth 20000 in
theorem bX15_hear_145 {p : Program} {l : Launch} {e : Env} {s : State} {m : MethodId} {args : Array Value} {below : List Frame} {meth : Method} {c : Code} {X : Ec} {h0 : Hp} {o : Int32 × Hp} {k_48 : Hp → Nat → Int32 → Int32 → Int32 → Int32 → Int32 → Option (Int32 × Hp)} {F : Nat} (C : Cx X p s m args meth c RX15 cX15_hear 8 (some .int) "hear") (hk_48 : ∀ (h : Hp) (x0 : Nat) (x1 : Int32) (x2 : Int32) (x3 : Int32) (x4 : Int32) (x5 : Int32) (H : Heap) (locs : List Loc), hK h x0 = 15 → Km h0 h → Wx X h H → va_S (aA (eB X)) s.heap H locs → ∀ (ls : Array Slot), lv_has ls 8 [(0, .ref x0), (1, .int x1), (2, .int x2), (3, .int x3), (4, .int x4), (5, .int x5)] → k_48 h x0 x1 x2 x3 x4 x5 = some o → W p l e (rm 8 216) s m args below meth c H locs 0 0 (MQ below (QI X h0 o.1 o.2) args s 0 0 (aA (eB X))) (F0 m 48 ls [])) {h : Hp} {x0 : Nat} {x1 : Int32} {x2 : Int32} {x3 : Int32} {x5 : Int32} {x6 : Int32} {H : Heap} {locs : List Loc} (k_x0 : hK h x0 = 15) (hkm : Km h0 h) (hW : Wx X h H) (hZ : va_S (aA (eB X)) s.heap H locs) (ls : Array Slot) (hl : lv_has ls 8 [(0, .ref x0), (1, .int x1), (2, .int x2), (3, .int x3), (5, .int x5), (6, .int x6)]) (hE : sX15_hear_145 F k_48 h x0 x1 x2 x3 x5 x6 = some o) : W p l e (rm 8 216) s m args below meth c H locs 0 0 (MQ below (QI X h0 o.1 o.2) args s 0 0 (aA (eB X))) (F0 m 145 ls []) := by
  refine lv_iload C.1 C.2.1 dX15_hear_145 (lv_at hl 5 rfl) ?_
  refine lv_if_eq (tgt := 155) C.1 C.2.1 dX15_hear_147 (by decide) (fun c_1 => ?_) (fun c_1 => ?_)
  · have hE := br_p hE c_1
    refine lv_iconst (v := (-1 : Int32)) C.1 C.2.1 dX15_hear_155 (by decide) ?_
    exact bX15_hear_156 C hk_48 k_x0 hkm hW hZ _ (lv_sub hl [0, 1, 2, 3, 4] rfl) hE
  · have hE := br_n hE c_1
    refine lv_iload C.1 C.2.1 dX15_hear_150 (lv_at hl 4 rfl) ?_
    refine lv_goto (tgt := 156) C.1 C.2.1 dX15_hear_152 (by decide) ?_
    exact bX15_hear_156 C hk_48 k_x0 hkm hW hZ _ (lv_sub hl [0, 1, 2, 3, 4] rfl) hE
set_option maxRecDepth 20000 in
theorem bX15_hear_137 {p : Program} {l : Launch} {e : Env} {s : State} {m : MethodId} {args : Array Value} {below : List Frame} {meth : Method} {c : Code} {X : Ec} {h0 : Hp} {o : Int32 × Hp} {k_48 : Hp → Nat → Int32 → Int32 → Int32 → Int32 → Int32 → Option (Int32 × Hp)} {k_104 : Hp → Nat → Int32 → Int32 → Int32 → Int32 → Int32 → Int32 → Option (Int32 × Hp)} {F : Nat} (C : Cx X p s m args meth c RX15 cX15_hear 8 (some .int) "hear") (hk_48 : ∀ (h : Hp) (x0 : Nat) (x1 : Int32) (x2 : Int32) (x3 : Int32) (x4 : Int32) (x5 : Int32) (H : Heap) (locs : List Loc), hK h x0 = 15 → Km h0 h → Wx X h H → va_S (aA (eB X)) s.heap H locs → ∀ (ls : Array Slot), lv_has ls 8 [(0, .ref x0), (1, .int x1), (2, .int x2), (3, .int x3), (4, .int x4), (5, .int x5)] → k_48 h x0 x1 x2 x3 x4 x5 = some o → W p l e (rm 8 216) s m args below meth c H locs 0 0 (MQ below (QI X h0 o.1 o.2) args s 0 0 (aA (eB X))) (F0 m 48 ls [])) (hk_104 : ∀ (h : Hp) (x0 : Nat) (x1 : Int32) (x2 : Int32) (x3 : Int32) (x5 : Int32) (x6 : Int32) (x7 : Int32) (H : Heap) (locs : List Loc), hK h x0 = 15 → Km h0 h → Wx X h H → va_S (aA (eB X)) s.heap H locs → ∀ (ls : Array Slot), lv_has ls 8 [(0, .ref x0), (1, .int x1), (2, .int x2), (3, .int x3), (5, .int x5), (6, .int x6), (7, .int x7)] → k_104 h x0 x1 x2 x3 x5 x6 x7 = some o → W p l e (rm 8 216) s m args below meth c H locs 0 0 (MQ below (QI X h0 o.1 o.2) args s 0 0 (aA (eB X))) (F0 m 104 ls [])) {h : Hp} {x0 : Nat} {x1 : Int32} {x2 : Int32} {x3 : Int32} {x5 : Int32} {x7 : Int32} {t0 : Int32} {H : Heap} {locs : List Loc} (k_x0 : hK h x0 = 15) (hkm : Km h0 h) (hW : Wx X h H) (hZ : va_S (aA (eB X)) s.heap H locs) (ls : Array Slot) (hl : lv_has ls 8 [(0, .ref x0), (1, .int x1), (2, .int x2), (3, .int x3), (5, .int x5), (7, .int x7)]) (hE : sX15_hear_137 F k_48 k_104 h x0 x1 x2 x3 x5 x7 t0 = some o) : W p l e (rm 8 216) s m args below meth c H locs 0 0 (MQ below (QI X h0 o.1 o.2) args s 0 0 (aA (eB X))) (F0 m 137 ls [.int t0]) := by
  refine lv_istore (lv' := [(6, .int t0), (0, .ref x0), (1, .int x1), (2, .int x2), (3, .int x3), (5, .int x5), (7, .int x7)]) C.1 C.2.1 dX15_hear_137 hl (by decide) rfl (fun ls hl => ?_)
  obtain ⟨v_1, ev_1, hE⟩ := nm_e2 hE
  refine lv_iinc (v := v_1) (lv' := [(7, .int v_1), (6, .int t0), (0, .ref x0), (1, .int x1), (2, .int x2), (3, .int x3), (5, .int x5)]) C.1 C.2.1 dX15_hear_139 hl (k := 6) rfl (by rw [ev_1]; rfl) (by decide) rfl (fun ls hl => ?_)
  refine lv_goto (tgt := 104) C.1 C.2.1 dX15_hear_142 (by decide) ?_
  exact hk_104 _ _ _ _ _ _ _ _ _ _ k_x0 hkm hW hZ _ (lv_sub hl [2, 3, 4, 5, 6, 1, 0] rfl) hE
set_option maxRecDepth 20000 in
theorem bX15_hear_104 {p : Program} {l : Launch} {e : Env} {s : State} {m : MethodId} {args : Array Value} {below : List Frame} {meth : Method} {c : Code} {X : Ec} {h0 : Hp} {o : Int32 × Hp} {k_48 : Hp → Nat → Int32 → Int32 → Int32 → Int32 → Int32 → Option (Int32 × Hp)} {F : Nat} (C : Cx X p s m args meth c RX15 cX15_hear 8 (some .int) "hear") (hk_48 : ∀ (h : Hp) (x0 : Nat) (x1 : Int32) (x2 : Int32) (x3 : Int32) (x4 : Int32) (x5 : Int32) (H : Heap) (locs : List Loc), hK h x0 = 15 → Km h0 h → Wx X h H → va_S (aA (eB X)) s.heap H locs → ∀ (ls : Array Slot), lv_has ls 8 [(0, .ref x0), (1, .int x1), (2, .int x2), (3, .int x3), (4, .int x4), (5, .int x5)] → k_48 h x0 x1 x2 x3 x4 x5 = some o → W p l e (rm 8 216) s m args below meth c H locs 0 0 (MQ below (QI X h0 o.1 o.2) args s 0 0 (aA (eB X))) (F0 m 48 ls [])) : ∀ (f : Nat) {h : Hp} {x0 : Nat} {x1 : Int32} {x2 : Int32} {x3 : Int32} {x5 : Int32} {x6 : Int32} {x7 : Int32} {H : Heap} {locs : List Loc} (k_x0 : hK h x0 = 15), Km h0 h → Wx X h H → va_S (aA (eB X)) s.heap H locs → ∀ (ls : Array Slot), lv_has ls 8 [(0, .ref x0), (1, .int x1), (2, .int x2), (3, .int x3), (5, .int x5), (6, .int x6), (7, .int x7)] → sX15_hear_104 F k_48 f h x0 x1 x2 x3 x5 x6 x7 = some o → W p l e (rm 8 216) s m args below meth c H locs 0 0 (MQ below (QI X h0 o.1 o.2) args s 0 0 (aA (eB X))) (F0 m 104 ls []) := by
  intro f
  induction f with
  | zero =>
    intro h x0 x1 x2 x3 x5 x6 x7 H locs k_x0 hkm hW hZ ls hl hE
    rw [sX15_hear_104] at hE
    cases hE
  | succ f ih =>
    intro h x0 x1 x2 x3 x5 x6 x7 H locs k_x0 hkm hW hZ ls hl hE
    rw [sX15_hear_104] at hE
    have hk_104 : ∀ (h : Hp) (x0 : Nat) (x1 : Int32) (x2 : Int32) (x3 : Int32) (x5 : Int32) (x6 : Int32) (x7 : Int32) (H : Heap) (locs : List Loc), hK h x0 = 15 → Km h0 h → Wx X h H → va_S (aA (eB X)) s.heap H locs → ∀ (ls : Array Slot), lv_has ls 8 [(0, .ref x0), (1, .int x1), (2, .int x2), (3, .int x3), (5, .int x5), (6, .int x6), (7, .int x7)] → sX15_hear_104 F k_48 f h x0 x1 x2 x3 x5 x6 x7 = some o → W p l e (rm 8 216) s m args below meth c H locs 0 0 (MQ below (QI X h0 o.1 o.2) args s 0 0 (aA (eB X))) (F0 m 104 ls []) := fun h x0 x1 x2 x3 x5 x6 x7 H locs k_x0 a b c ls hl hE => ih k_x0 a b c ls hl hE
    refine lv_iload C.1 C.2.1 dX15_hear_104 (lv_at hl 6 rfl) ?_
    refine lv_iload_n C.1 C.2.1 dX15_hear_106 rfl (lv_at hl 2 rfl) ?_
    refine lv_icmp_ge (tgt := 145) C.1 C.2.1 dX15_hear_107 (by decide) (fun c_1 => ?_) (fun c_1 => ?_)
    · have hE := br_p hE c_1
      exact bX15_hear_145 C hk_48 k_x0 hkm hW hZ _ (lv_sub hl [0, 1, 2, 3, 4, 5] rfl) hE
    · have hE := br_n hE c_1
      refine lv_iload C.1 C.2.1 dX15_hear_110 (lv_at hl 5 rfl) ?_
      refine lv_if_eq (tgt := 145) C.1 C.2.1 dX15_hear_112 (by decide) (fun c_2 => ?_) (fun c_2 => ?_)
      · have hE := br_p hE c_2
        exact bX15_hear_145 C hk_48 k_x0 hkm hW hZ _ (lv_sub hl [0, 1, 2, 3, 4, 5] rfl) hE
      · have hE := br_n hE c_2
        refine lv_aload_n C.1 C.2.1 dX15_hear_115 rfl (lv_at hl 0 rfl) ?_
        obtain ⟨r_3, er_3, hE⟩ := cl_e hE
        refine gf_X15_7 C hW k_x0 er_3 dX15_hear_116 (fun k_r_3 => ?_)
        refine lv_iload C.1 C.2.1 dX15_hear_119 (lv_at hl 6 rfl) ?_
        obtain ⟨g_4, hE⟩ := gd_e hE
        refine y_bald C hW k_r_3 g_4 dX15_hear_121 ?_
        refine lv_aload_n C.1 C.2.1 dX15_hear_122 rfl (lv_at hl 0 rfl) ?_
        obtain ⟨r_5, er_5, hE⟩ := cl_e hE
        refine gf_X15_14 C hW k_x0 er_5 dX15_hear_123 (fun k_r_5 => ?_)
        refine lv_iload C.1 C.2.1 dX15_hear_126 (lv_at hl 6 rfl) ?_
        obtain ⟨g_6, hE⟩ := gd_e hE
        refine y_bald C hW k_r_5 g_6 dX15_hear_128 ?_
        refine lv_icmp_ne (tgt := 136) C.1 C.2.1 dX15_hear_129 (by decide) (fun c_7 => ?_) (fun c_7 => ?_)
        · have hE := br_n hE c_7
          refine lv_iconst (v := (0 : Int32)) C.1 C.2.1 dX15_hear_136 (by decide) ?_
          exact bX15_hear_137 C hk_48 hk_104 k_x0 hkm hW hZ _ (lv_sub hl [0, 1, 2, 3, 4, 6] rfl) hE
        · have hE := br_p hE c_7
          refine lv_iconst (v := (1 : Int32)) C.1 C.2.1 dX15_hear_132 (by decide) ?_
          refine lv_goto (tgt := 137) C.1 C.2.1 dX15_hear_133 (by decide) ?_
          exact bX15_hear_137 C hk_48 hk_104 k_x0 hkm hW hZ _ (lv_sub hl [0, 1, 2, 3, 4, 6] rfl) hE
set_option maxRecDepth 20000 in
theorem bX15_hear_99 {p : Program} {l : Launch} {e : Env} {s : State} {m : MethodId} {args : Array Value} {below : List Frame} {meth : Method} {c : Code} {X : Ec} {h0 : Hp} {o : Int32 × Hp} {k_48 : Hp → Nat → Int32 → Int32 → Int32 → Int32 → Int32 → Option (Int32 × Hp)} {F : Nat} (C : Cx X p s m args meth c RX15 cX15_hear 8 (some .int) "hear") (hk_48 : ∀ (h : Hp) (x0 : Nat) (x1 : Int32) (x2 : Int32) (x3 : Int32) (x4 : Int32) (x5 : Int32) (H : Heap) (locs : List Loc), hK h x0 = 15 → Km h0 h → Wx X h H → va_S (aA (eB X)) s.heap H locs → ∀ (ls : Array Slot), lv_has ls 8 [(0, .ref x0), (1, .int x1), (2, .int x2), (3, .int x3), (4, .int x4), (5, .int x5)] → k_48 h x0 x1 x2 x3 x4 x5 = some o → W p l e (rm 8 216) s m args below meth c H locs 0 0 (MQ below (QI X h0 o.1 o.2) args s 0 0 (aA (eB X))) (F0 m 48 ls [])) {h : Hp} {x0 : Nat} {x1 : Int32} {x2 : Int32} {x3 : Int32} {x5 : Int32} {t0 : Int32} {H : Heap} {locs : List Loc} (k_x0 : hK h x0 = 15) (hkm : Km h0 h) (hW : Wx X h H) (hZ : va_S (aA (eB X)) s.heap H locs) (ls : Array Slot) (hl : lv_has ls 8 [(0, .ref x0), (1, .int x1), (2, .int x2), (3, .int x3), (5, .int x5)]) (hE : sX15_hear_99 F k_48 h x0 x1 x2 x3 x5 t0 = some o) : W p l e (rm 8 216) s m args below meth c H locs 0 0 (MQ below (QI X h0 o.1 o.2) args s 0 0 (aA (eB X))) (F0 m 99 ls [.int t0]) := by
  refine lv_istore (lv' := [(6, .int t0), (0, .ref x0), (1, .int x1), (2, .int x2), (3, .int x3), (5, .int x5)]) C.1 C.2.1 dX15_hear_99 hl (by decide) rfl (fun ls hl => ?_)
  refine lv_iconst (v := (0 : Int32)) C.1 C.2.1 dX15_hear_101 (by decide) ?_
  refine lv_istore (lv' := [(7, .int (0 : Int32)), (6, .int t0), (0, .ref x0), (1, .int x1), (2, .int x2), (3, .int x3), (5, .int x5)]) C.1 C.2.1 dX15_hear_102 hl (by decide) rfl (fun ls hl => ?_)
  exact bX15_hear_104 C hk_48 F k_x0 hkm hW hZ _ (lv_sub hl [2, 3, 4, 5, 6, 1, 0] rfl) hE
set_option maxRecDepth 20000 in
theorem bX15_hear_94 {p : Program} {l : Launch} {e : Env} {s : State} {m : MethodId} {args : Array Value} {below : List Frame} {meth : Method} {c : Code} {X : Ec} {h0 : Hp} {o : Int32 × Hp} {k_48 : Hp → Nat → Int32 → Int32 → Int32 → Int32 → Int32 → Option (Int32 × Hp)} {F : Nat} (C : Cx X p s m args meth c RX15 cX15_hear 8 (some .int) "hear") (hk_48 : ∀ (h : Hp) (x0 : Nat) (x1 : Int32) (x2 : Int32) (x3 : Int32) (x4 : Int32) (x5 : Int32) (H : Heap) (locs : List Loc), hK h x0 = 15 → Km h0 h → Wx X h H → va_S (aA (eB X)) s.heap H locs → ∀ (ls : Array Slot), lv_has ls 8 [(0, .ref x0), (1, .int x1), (2, .int x2), (3, .int x3), (4, .int x4), (5, .int x5)] → k_48 h x0 x1 x2 x3 x4 x5 = some o → W p l e (rm 8 216) s m args below meth c H locs 0 0 (MQ below (QI X h0 o.1 o.2) args s 0 0 (aA (eB X))) (F0 m 48 ls [])) {h : Hp} {x0 : Nat} {x1 : Int32} {x2 : Int32} {x3 : Int32} {x5 : Int32} {H : Heap} {locs : List Loc} (k_x0 : hK h x0 = 15) (hkm : Km h0 h) (hW : Wx X h H) (hZ : va_S (aA (eB X)) s.heap H locs) (ls : Array Slot) (hl : lv_has ls 8 [(0, .ref x0), (1, .int x1), (2, .int x2), (3, .int x3), (5, .int x5)]) (hE : sX15_hear_94 F k_48 h x0 x1 x2 x3 x5 = some o) : W p l e (rm 8 216) s m args below meth c H locs 0 0 (MQ below (QI X h0 o.1 o.2) args s 0 0 (aA (eB X))) (F0 m 94 ls []) := by
  refine lv_iconst (v := (1 : Int32)) C.1 C.2.1 dX15_hear_94 (by decide) ?_
  refine lv_goto (tgt := 99) C.1 C.2.1 dX15_hear_95 (by decide) ?_
  exact bX15_hear_99 C hk_48 k_x0 hkm hW hZ _ (lv_sub hl [0, 1, 2, 3, 4] rfl) hE
set_option maxRecDepth 20000 in
theorem bX15_hear_48 {p : Program} {l : Launch} {e : Env} {s : State} {m : MethodId} {args : Array Value} {below : List Frame} {meth : Method} {c : Code} {X : Ec} {h0 : Hp} {o : Int32 × Hp} {F : Nat} (C : Cx X p s m args meth c RX15 cX15_hear 8 (some .int) "hear") : ∀ (f : Nat) {h : Hp} {x0 : Nat} {x1 : Int32} {x2 : Int32} {x3 : Int32} {x4 : Int32} {x5 : Int32} {H : Heap} {locs : List Loc} (k_x0 : hK h x0 = 15), Km h0 h → Wx X h H → va_S (aA (eB X)) s.heap H locs → ∀ (ls : Array Slot), lv_has ls 8 [(0, .ref x0), (1, .int x1), (2, .int x2), (3, .int x3), (4, .int x4), (5, .int x5)] → sX15_hear_48 F f h x0 x1 x2 x3 x4 x5 = some o → W p l e (rm 8 216) s m args below meth c H locs 0 0 (MQ below (QI X h0 o.1 o.2) args s 0 0 (aA (eB X))) (F0 m 48 ls []) := by
  intro f
  induction f with
  | zero =>
    intro h x0 x1 x2 x3 x4 x5 H locs k_x0 hkm hW hZ ls hl hE
    rw [sX15_hear_48] at hE
    cases hE
  | succ f ih =>
    intro h x0 x1 x2 x3 x4 x5 H locs k_x0 hkm hW hZ ls hl hE
    rw [sX15_hear_48] at hE
    have hk_48 : ∀ (h : Hp) (x0 : Nat) (x1 : Int32) (x2 : Int32) (x3 : Int32) (x4 : Int32) (x5 : Int32) (H : Heap) (locs : List Loc), hK h x0 = 15 → Km h0 h → Wx X h H → va_S (aA (eB X)) s.heap H locs → ∀ (ls : Array Slot), lv_has ls 8 [(0, .ref x0), (1, .int x1), (2, .int x2), (3, .int x3), (4, .int x4), (5, .int x5)] → sX15_hear_48 F f h x0 x1 x2 x3 x4 x5 = some o → W p l e (rm 8 216) s m args below meth c H locs 0 0 (MQ below (QI X h0 o.1 o.2) args s 0 0 (aA (eB X))) (F0 m 48 ls []) := fun h x0 x1 x2 x3 x4 x5 H locs k_x0 a b c ls hl hE => ih k_x0 a b c ls hl hE
    refine lv_iload C.1 C.2.1 dX15_hear_48 (lv_at hl 5 rfl) ?_
    refine lv_aload_n C.1 C.2.1 dX15_hear_50 rfl (lv_at hl 0 rfl) ?_
    obtain ⟨r_1, er_1, hE⟩ := cl_e hE
    refine gf_X15_288 C hW k_x0 er_1 dX15_hear_51 (fun k_r_1 => ?_)
    refine gf_X15_575 C hW k_r_1 dX15_hear_54 ?_
    refine lv_icmp_ge (tgt := 164) C.1 C.2.1 dX15_hear_57 (by decide) (fun c_2 => ?_) (fun c_2 => ?_)
    · have hE := br_p hE c_2
      exact bX15_hear_164 C k_x0 hkm hW hZ _ (lv_sub hl [0, 3, 4] rfl) hE
    · have hE := br_n hE c_2
      refine lv_iload C.1 C.2.1 dX15_hear_60 (lv_at hl 4 rfl) ?_
      refine lv_iconst (v := (-1 : Int32)) C.1 C.2.1 dX15_hear_62 (by decide) ?_
      refine lv_icmp_ne (tgt := 164) C.1 C.2.1 dX15_hear_63 (by decide) (fun c_3 => ?_) (fun c_3 => ?_)
      · have hE := br_n hE c_3
        exact bX15_hear_164 C k_x0 hkm hW hZ _ (lv_sub hl [0, 3, 4] rfl) hE
      · have hE := br_p hE c_3
        refine lv_aload_n C.1 C.2.1 dX15_hear_66 rfl (lv_at hl 0 rfl) ?_
        refine lv_aload_n C.1 C.2.1 dX15_hear_67 rfl (lv_at hl 0 rfl) ?_
        obtain ⟨r_4, er_4, hE⟩ := cl_e hE
        refine gf_X15_257 C hW k_x0 er_4 dX15_hear_68 (fun k_r_4 => ?_)
        refine lv_iload_n C.1 C.2.1 dX15_hear_71 rfl (lv_at hl 1 rfl) ?_
        obtain ⟨g_5, hE⟩ := gd_e hE
        obtain ⟨r_6, er_6, hE⟩ := cl_e hE
        refine y_aald (t0 := 5) C hW k_r_4 (by decide) (by decide) rfl rfl rfl (fun _ => rfl) g_5 er_6 dX15_hear_72 (fun k_r_6 => ?_)
        refine lv_iload C.1 C.2.1 dX15_hear_73 (lv_at hl 5 rfl) ?_
        obtain ⟨o_7, eo_7, hE⟩ := cl_e hE
        refine x_kV (o := o_7) (z_runV (As := [.ref r_6, .int x5]) (rest := []) C (ct_X15_sayMove l X F k_x0 k_r_6 eo_7) cw_X15_694 hW hZ k_x0 (by decide) rfl rfl rfl hl.1 (Nat.le_of_ble_eq_true rfl) rfl dX15_hear_75 ⟨Nat.le_of_ble_eq_true rfl, Nat.le_of_ble_eq_true rfl⟩ ⟨Nat.le_refl _, Nat.le_refl _⟩) hZ (fun _ _ hW km hZ => ?_)
        replace hkm := hkm.tr km
        replace k_x0 := km.at k_x0 (by decide)
        refine lv_iload_n C.1 C.2.1 dX15_hear_78 rfl (lv_at hl 2 rfl) ?_
        refine lv_aload_n C.1 C.2.1 dX15_hear_79 rfl (lv_at hl 0 rfl) ?_
        refine gf_X15_11 C hW k_x0 dX15_hear_80 ?_
        refine lv_icmp_eq (tgt := 94) C.1 C.2.1 dX15_hear_83 (by decide) (fun c_8 => ?_) (fun c_8 => ?_)
        · have hE := br_p hE c_8
          exact bX15_hear_94 C hk_48 k_x0 hkm hW hZ _ (lv_sub hl [0, 1, 2, 3, 5] rfl) hE
        · have hE := br_n hE c_8
          refine lv_iload_n C.1 C.2.1 dX15_hear_86 rfl (lv_at hl 2 rfl) ?_
          refine lv_aload_n C.1 C.2.1 dX15_hear_87 rfl (lv_at hl 0 rfl) ?_
          refine gf_X15_693 C hW k_x0 dX15_hear_88 ?_
          refine lv_icmp_ne (tgt := 98) C.1 C.2.1 dX15_hear_91 (by decide) (fun c_9 => ?_) (fun c_9 => ?_)
          · have hE := br_n hE c_9
            refine lv_iconst (v := (0 : Int32)) C.1 C.2.1 dX15_hear_98 (by decide) ?_
            exact bX15_hear_99 C hk_48 k_x0 hkm hW hZ _ (lv_sub hl [0, 1, 2, 3, 5] rfl) hE
          · have hE := br_p hE c_9
            exact bX15_hear_94 C hk_48 k_x0 hkm hW hZ _ (lv_sub hl [0, 1, 2, 3, 5] rfl) hE
set_option maxRecDepth 20000 in
theorem ct_X15_hear (l : Launch) (X : Ec) (F : Nat) {h : Hp} {x0 : Nat} {x1 : Int32} {o : Int32 × Hp} (k_x0 : hK h x0 = 15) (hE : sX15_hear F h x0 x1 = some o) : MetI l yX15_hear cX15_hear 8 (some .int) 8 216 X [.ref x0, .int x1] h o := by
  refine x_met (by decide) (Nat.le_of_ble_eq_true rfl) ?_
  intro p e s m below meth c ls C hl hW hZ
  have hl : lv_has ls 8 [(0, .ref x0), (1, .int x1)] := hl
  have hkm : Km h h := Km.rf h
  refine lv_aload_n C.1 C.2.1 dX15_hear_0 rfl (lv_at hl 0 rfl) ?_
  refine gf_X15_1 C hW k_x0 dX15_hear_1 ?_
  obtain ⟨v_1, ev_1, hE⟩ := nm_e2 hE
  refine x_nmI ev_1 ?_
  refine lv_istore_n (lv' := [(2, .int v_1), (0, .ref x0), (1, .int x1)]) C.1 C.2.1 dX15_hear_4 rfl hl (by decide) rfl (fun ls hl => ?_)
  refine lv_aload_n C.1 C.2.1 dX15_hear_5 rfl (lv_at hl 1 rfl) ?_
  refine lv_iconst (v := (0 : Int32)) C.1 C.2.1 dX15_hear_6 (by decide) ?_
  obtain ⟨h_2, eh_2, hE⟩ := nm_e2 hE
  refine pf_X15_1 C hW hZ k_x0 eh_2 dX15_hear_7 (fun _ _ hW km hZ => ?_)
  replace hkm := hkm.tr km
  replace k_x0 := km.at k_x0 (by decide)
  refine lv_aload_n C.1 C.2.1 dX15_hear_10 rfl (lv_at hl 1 rfl) ?_
  refine lv_iload_n C.1 C.2.1 dX15_hear_11 rfl (lv_at hl 2 rfl) ?_
  obtain ⟨o_3, eo_3, hE⟩ := cl_e hE
  refine x_kI (o := o_3) (z_runV (As := [.int x1]) (rest := []) C (ct_X15_moves l X F k_x0 eo_3) cw_X15_668 hW hZ k_x0 (by decide) rfl rfl rfl hl.1 (Nat.le_of_ble_eq_true rfl) rfl dX15_hear_12 ⟨Nat.le_of_ble_eq_true rfl, Nat.le_of_ble_eq_true rfl⟩ ⟨Nat.le_refl _, Nat.le_refl _⟩) hZ (fun _ _ hW km hZ => ?_)
  replace hkm := hkm.tr km
  replace k_x0 := km.at k_x0 (by decide)
  refine lv_bipush (v := (-102 : Int32)) C.1 C.2.1 dX15_hear_15 (by decide) ?_
  refine lv_icmp_ne (tgt := 23) C.1 C.2.1 dX15_hear_17 (by decide) (fun c_4 => ?_) (fun c_4 => ?_)
  · have hE := br_n hE c_4
    refine lv_aload_n C.1 C.2.1 dX15_hear_23 rfl (lv_at hl 1 rfl) ?_
    refine gf_X15_11 C hW k_x0 dX15_hear_24 ?_
    obtain ⟨v_5, ev_5, hE⟩ := nm_e2 hE
    refine x_nmI ev_5 ?_
    refine lv_istore_n (lv' := [(3, .int v_5), (2, .int v_1), (0, .ref x0), (1, .int x1)]) C.1 C.2.1 dX15_hear_27 rfl hl (by decide) rfl (fun ls hl => ?_)
    refine lv_aload_n C.1 C.2.1 dX15_hear_28 rfl (lv_at hl 2 rfl) ?_
    obtain ⟨r_6, er_6, hE⟩ := cl_e hE
    refine gf_X15_14 C hW k_x0 er_6 dX15_hear_29 (fun k_r_6 => ?_)
    refine lv_iconst (v := (0 : Int32)) C.1 C.2.1 dX15_hear_32 (by decide) ?_
    refine lv_aload_n C.1 C.2.1 dX15_hear_33 rfl (lv_at hl 2 rfl) ?_
    obtain ⟨r_7, er_7, hE⟩ := cl_e hE
    refine gf_X15_327 C hW k_x0 er_7 dX15_hear_34 (fun k_r_7 => ?_)
    refine lv_iconst (v := (0 : Int32)) C.1 C.2.1 dX15_hear_37 (by decide) ?_
    refine lv_iload_n C.1 C.2.1 dX15_hear_38 rfl (lv_at hl 0 rfl) ?_
    obtain ⟨g_8, hE⟩ := gd_e hE
    obtain ⟨g_9, hE⟩ := gd_e hE
    obtain ⟨g_10, hE⟩ := gd_e hE
    obtain ⟨g_11, hE⟩ := gd_e hE
    obtain ⟨g_12, hE⟩ := gd_e hE
    obtain ⟨g_13, hE⟩ := gd_e hE
    obtain ⟨h_14, eh_14, hE⟩ := nm_e2 hE
    refine y_cpyI (ty := .byte) C hW hZ hl.1 m_2659 m_1235 m_1234 m_23 k_r_6 k_r_7 (Or.inl ⟨rfl, rfl⟩) g_8 g_9 g_10 g_11 g_12 g_13 (Nat.le_of_ble_eq_true rfl) (Nat.le_of_ble_eq_true rfl) eh_14 dX15_hear_39 (fun _ _ hW km hZ => ?_)
    replace hkm := hkm.tr km
    replace k_x0 := km.at k_x0 (by decide)
    refine lv_iconst (v := (-1 : Int32)) C.1 C.2.1 dX15_hear_42 (by decide) ?_
    refine lv_istore (lv' := [(4, .int (-1 : Int32)), (3, .int v_5), (2, .int v_1), (0, .ref x0), (1, .int x1)]) C.1 C.2.1 dX15_hear_43 hl (by decide) rfl (fun ls hl => ?_)
    refine lv_iconst (v := (0 : Int32)) C.1 C.2.1 dX15_hear_45 (by decide) ?_
    refine lv_istore (lv' := [(5, .int (0 : Int32)), (4, .int (-1 : Int32)), (3, .int v_5), (2, .int v_1), (0, .ref x0), (1, .int x1)]) C.1 C.2.1 dX15_hear_46 hl (by decide) rfl (fun ls hl => ?_)
    exact bX15_hear_48 C F k_x0 hkm hW hZ _ (lv_sub hl [4, 5, 3, 2, 1, 0] rfl) hE
  · have hE := br_p hE c_4
    refine lv_bipush (v := (-102 : Int32)) C.1 C.2.1 dX15_hear_20 (by decide) ?_
    exact x_iret C rfl rfl hW hZ hkm hE dX15_hear_22
