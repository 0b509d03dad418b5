set_option maxRecDepth 100000 in
theorem ms_178 : Cond.selects RX15 yX15_tryCastling yX15_tryCastling ∈ W0 := w0_in (List.mem_append_left _ (List.mem_of_getElem? (i := 178) rfl)) rfl
set_option maxRecDepth 100000 in
theorem ms_177 : Cond.selects RX15 yX15_trySteps yX15_trySteps ∈ W0 := w0_in (List.mem_append_left _ (List.mem_of_getElem? (i := 177) rfl)) rfl
set_option maxRecDepth 100000 in
theorem ms_174 : Cond.selects RX15 yX15_lead yX15_lead ∈ W0 := w0_in (List.mem_append_left _ (List.mem_of_getElem? (i := 174) rfl)) rfl
set_option maxRecDepth 100000 in
theorem n_1948 : Cond.fieldLinkNest RX15 575 (TX13 0).1 (TX13 0).2.1 (TX13 0).2.2.1 "GameRulesModel" ∈ tables_1 := List.mem_of_getElem? (i := 1948) rfl
set_option maxRecDepth 100000 in
theorem m_2532 : Cond.methodLink RX15 578 yX15_lead ∈ W0 := w0_in (List.mem_append_right _ (List.mem_of_getElem? (i := 2532) rfl)) rfl
set_option maxRecDepth 100000 in
theorem m_2534 : Cond.instanceMethod yX15_lead ∈ W0 := w0_in (List.mem_append_right _ (List.mem_of_getElem? (i := 2534) rfl)) rfl
set_option maxRecDepth 100000 in
theorem m_2535 : Cond.code yX15_lead cX15_lead 9 none ∈ W0 := w0_in (List.mem_append_right _ (List.mem_of_getElem? (i := 2535) rfl)) rfl
set_option maxRecDepth 100000 in
theorem m_2544 : Cond.methodLink RX15 582 yX15_trySteps ∈ W0 := w0_in (List.mem_append_right _ (List.mem_of_getElem? (i := 2544) rfl)) rfl
set_option maxRecDepth 100000 in
theorem m_2546 : Cond.instanceMethod yX15_trySteps ∈ W0 := w0_in (List.mem_append_right _ (List.mem_of_getElem? (i := 2546) rfl)) rfl
set_option maxRecDepth 100000 in
theorem m_2547 : Cond.code yX15_trySteps cX15_trySteps 10 none ∈ W0 := w0_in (List.mem_append_right _ (List.mem_of_getElem? (i := 2547) rfl)) rfl
set_option maxRecDepth 100000 in
theorem m_2552 : Cond.methodLink RX15 586 yX15_tryCastling ∈ W0 := w0_in (List.mem_append_right _ (List.mem_of_getElem? (i := 2552) rfl)) rfl
set_option maxRecDepth 100000 in
theorem m_2554 : Cond.instanceMethod yX15_tryCastling ∈ W0 := w0_in (List.mem_append_right _ (List.mem_of_getElem? (i := 2554) rfl)) rfl
set_option maxRecDepth 100000 in
theorem m_2555 : Cond.code yX15_tryCastling cX15_tryCastling 7 none ∈ W0 := w0_in (List.mem_append_right _ (List.mem_of_getElem? (i := 2555) rfl)) rfl
section
variable {p : Program} {l : Launch} {e : Env} {R : Room} {s : State} {m : MethodId} {args : Array Value} {below : List Frame} {meth : Method} {c : Code} {H : Heap} {locs : List Loc} {cells slots : Nat} {Q : State → Prop}
variable {cc : ByteArray} {pc : Nat} {ls : Array Slot} {rest : List Value} {X : Ec} {h h1 : Hp} {nL : Nat} {rt : Option FieldType} {mn : String}
theorem pf_X15_575 {a : Nat} {v : Int32} (C : Cx X p s m args meth c RX15 cc nL rt mn) (hW : Wx X h H) (hZ : va_S (aA (eB X)) s.heap H locs) (ha : hK h a = 13) (eh : h1 = wI h a 0 v) (hdg : decode cc pc = .ok (.putfield 575, 3)) (kk : ∀ (H1 : Heap) (locs1 : List Loc), Wx X h1 H1 → Km h h1 → va_S (aA (eB X)) s.heap H1 locs1 → W p l e R s m args below meth c H1 locs1 cells slots Q (F0 m (pc + 3) ls rest)) : W p l e R s m args below meth c H locs cells slots Q (F0 m pc ls (.int v :: .ref a :: rest)) :=
  y_putiN (ty := .int) C hW hZ ha i_X13 tyX13 tyX13_ok nmX13 (by decide) rfl rfl (by decide) n_1948 rfl (by decide +kernel) rfl rfl rfl eh hdg kk
end
theorem cw_X15_586 : cwd RX15 586 yX15_tryCastling cX15_tryCastling 7 none false 4 := ⟨m_2555, m_2552, m_19, ⟨m_2554, ms_178⟩, by decide, by decide, by decide +kernel⟩
theorem cw_X15_582 : cwd RX15 582 yX15_trySteps cX15_trySteps 10 none false 5 := ⟨m_2547, m_2544, m_19, ⟨m_2546, ms_177⟩, by decide, by decide, by decide +kernel⟩
theorem cw_X15_578 : cwd RX15 578 yX15_lead cX15_lead 9 none false 3 := ⟨m_2535, m_2532, m_19, ⟨m_2534, ms_174⟩, by decide, by decide, by decide +kernel⟩
theorem dX15_tryAll_0 : decode cX15_tryAll 0 = .ok (.aload_n 2, 1) := by decide +kernel
theorem dX15_tryAll_1 : decode cX15_tryAll 1 = .ok (.iconst 0, 1) := by decide +kernel
theorem dX15_tryAll_2 : decode cX15_tryAll 2 = .ok (.putfield 575, 3) := by decide +kernel
theorem dX15_tryAll_5 : decode cX15_tryAll 5 = .ok (.iconst 0, 1) := by decide +kernel
theorem dX15_tryAll_6 : decode cX15_tryAll 6 = .ok (.istore_n 3, 1) := by decide +kernel
theorem dX15_tryAll_7 : decode cX15_tryAll 7 = .ok (.iload_n 3, 1) := by decide +kernel
theorem dX15_tryAll_8 : decode cX15_tryAll 8 = .ok (.aload_n 0, 1) := by decide +kernel
theorem dX15_tryAll_9 : decode cX15_tryAll 9 = .ok (.getfield 384, 3) := by decide +kernel
theorem dX15_tryAll_12 : decode cX15_tryAll 12 = .ok (.if_icmp .ge 108, 3) := by decide +kernel
theorem dX15_tryAll_15 : decode cX15_tryAll 15 = .ok (.aload_n 1, 1) := by decide +kernel
theorem dX15_tryAll_16 : decode cX15_tryAll 16 = .ok (.getfield 396, 3) := by decide +kernel
theorem dX15_tryAll_19 : decode cX15_tryAll 19 = .ok (.iload_n 3, 1) := by decide +kernel
theorem dX15_tryAll_20 : decode cX15_tryAll 20 = .ok (.iaload, 1) := by decide +kernel
theorem dX15_tryAll_21 : decode cX15_tryAll 21 = .ok (.istore 4, 2) := by decide +kernel
theorem dX15_tryAll_23 : decode cX15_tryAll 23 = .ok (.iload 4, 2) := by decide +kernel
theorem dX15_tryAll_25 : decode cX15_tryAll 25 = .ok (.ifCond .le 89, 3) := by decide +kernel
theorem dX15_tryAll_28 : decode cX15_tryAll 28 = .ok (.iload 4, 2) := by decide +kernel
theorem dX15_tryAll_30 : decode cX15_tryAll 30 = .ok (.invokestatic 489, 3) := by decide +kernel
theorem dX15_tryAll_33 : decode cX15_tryAll 33 = .ok (.aload_n 1, 1) := by decide +kernel
theorem dX15_tryAll_34 : decode cX15_tryAll 34 = .ok (.getfield 452, 3) := by decide +kernel
theorem dX15_tryAll_37 : decode cX15_tryAll 37 = .ok (.if_icmp .ne 77, 3) := by decide +kernel
theorem dX15_tryAll_40 : decode cX15_tryAll 40 = .ok (.aload_n 0, 1) := by decide +kernel
theorem dX15_tryAll_41 : decode cX15_tryAll 41 = .ok (.aload_n 1, 1) := by decide +kernel
theorem dX15_tryAll_42 : decode cX15_tryAll 42 = .ok (.iload_n 3, 1) := by decide +kernel
theorem dX15_tryAll_43 : decode cX15_tryAll 43 = .ok (.iconst 1, 1) := by decide +kernel
theorem dX15_tryAll_44 : decode cX15_tryAll 44 = .ok (.invokevirtual 578, 3) := by decide +kernel
theorem dX15_tryAll_47 : decode cX15_tryAll 47 = .ok (.iconst 0, 1) := by decide +kernel
theorem dX15_tryAll_48 : decode cX15_tryAll 48 = .ok (.istore 5, 2) := by decide +kernel
theorem dX15_tryAll_50 : decode cX15_tryAll 50 = .ok (.iload 5, 2) := by decide +kernel
theorem dX15_tryAll_52 : decode cX15_tryAll 52 = .ok (.aload_n 0, 1) := by decide +kernel
theorem dX15_tryAll_53 : decode cX15_tryAll 53 = .ok (.getfield 384, 3) := by decide +kernel
theorem dX15_tryAll_56 : decode cX15_tryAll 56 = .ok (.if_icmp .ge 58, 3) := by decide +kernel
theorem dX15_tryAll_59 : decode cX15_tryAll 59 = .ok (.aload_n 0, 1) := by decide +kernel
theorem dX15_tryAll_60 : decode cX15_tryAll 60 = .ok (.getfield 272, 3) := by decide +kernel
theorem dX15_tryAll_63 : decode cX15_tryAll 63 = .ok (.iload 5, 2) := by decide +kernel
theorem dX15_tryAll_65 : decode cX15_tryAll 65 = .ok (.iaload, 1) := by decide +kernel
theorem dX15_tryAll_66 : decode cX15_tryAll 66 = .ok (.iconst (-1), 1) := by decide +kernel
theorem dX15_tryAll_67 : decode cX15_tryAll 67 = .ok (.if_icmp .eq 17, 3) := by decide +kernel
theorem dX15_tryAll_70 : decode cX15_tryAll 70 = .ok (.aload_n 0, 1) := by decide +kernel
theorem dX15_tryAll_71 : decode cX15_tryAll 71 = .ok (.aload_n 1, 1) := by decide +kernel
theorem dX15_tryAll_72 : decode cX15_tryAll 72 = .ok (.iload_n 3, 1) := by decide +kernel
theorem dX15_tryAll_73 : decode cX15_tryAll 73 = .ok (.iload 5, 2) := by decide +kernel
theorem dX15_tryAll_75 : decode cX15_tryAll 75 = .ok (.iload 4, 2) := by decide +kernel
theorem dX15_tryAll_77 : decode cX15_tryAll 77 = .ok (.invokestatic 492, 3) := by decide +kernel
theorem dX15_tryAll_80 : decode cX15_tryAll 80 = .ok (.aload_n 2, 1) := by decide +kernel
theorem dX15_tryAll_81 : decode cX15_tryAll 81 = .ok (.invokevirtual 582, 3) := by decide +kernel
theorem dX15_tryAll_84 : decode cX15_tryAll 84 = .ok (.iload 4, 2) := by decide +kernel
theorem dX15_tryAll_86 : decode cX15_tryAll 86 = .ok (.invokestatic 492, 3) := by decide +kernel
theorem dX15_tryAll_89 : decode cX15_tryAll 89 = .ok (.aload_n 0, 1) := by decide +kernel
theorem dX15_tryAll_90 : decode cX15_tryAll 90 = .ok (.getfield 252, 3) := by decide +kernel
theorem dX15_tryAll_93 : decode cX15_tryAll 93 = .ok (.getfield 221, 3) := by decide +kernel
theorem dX15_tryAll_96 : decode cX15_tryAll 96 = .ok (.if_icmp .ne 12, 3) := by decide +kernel
theorem dX15_tryAll_99 : decode cX15_tryAll 99 = .ok (.aload_n 0, 1) := by decide +kernel
theorem dX15_tryAll_100 : decode cX15_tryAll 100 = .ok (.aload_n 1, 1) := by decide +kernel
theorem dX15_tryAll_101 : decode cX15_tryAll 101 = .ok (.iload_n 3, 1) := by decide +kernel
theorem dX15_tryAll_102 : decode cX15_tryAll 102 = .ok (.iload 5, 2) := by decide +kernel
theorem dX15_tryAll_104 : decode cX15_tryAll 104 = .ok (.aload_n 2, 1) := by decide +kernel
theorem dX15_tryAll_105 : decode cX15_tryAll 105 = .ok (.invokevirtual 586, 3) := by decide +kernel
theorem dX15_tryAll_108 : decode cX15_tryAll 108 = .ok (.iinc 5 1, 3) := by decide +kernel
theorem dX15_tryAll_111 : decode cX15_tryAll 111 = .ok (.goto (-61), 3) := by decide +kernel
theorem dX15_tryAll_114 : decode cX15_tryAll 114 = .ok (.iinc 3 1, 3) := by decide +kernel
theorem dX15_tryAll_117 : decode cX15_tryAll 117 = .ok (.goto (-110), 3) := by decide +kernel
theorem dX15_tryAll_120 : decode cX15_tryAll 120 = .ok (.iconst 0, 1) := by decide +kernel
theorem dX15_tryAll_121 : decode cX15_tryAll 121 = .ok (.istore_n 3, 1) := by decide +kernel
theorem dX15_tryAll_122 : decode cX15_tryAll 122 = .ok (.iload_n 3, 1) := by decide +kernel
theorem dX15_tryAll_123 : decode cX15_tryAll 123 = .ok (.aload_n 0, 1) := by decide +kernel
theorem dX15_tryAll_124 : decode cX15_tryAll 124 = .ok (.getfield 384, 3) := by decide +kernel
theorem dX15_tryAll_127 : decode cX15_tryAll 127 = .ok (.if_icmp .ge 123, 3) := by decide +kernel
theorem dX15_tryAll_130 : decode cX15_tryAll 130 = .ok (.aload_n 0, 1) := by decide +kernel
theorem dX15_tryAll_131 : decode cX15_tryAll 131 = .ok (.getfield 252, 3) := by decide +kernel
theorem dX15_tryAll_134 : decode cX15_tryAll 134 = .ok (.getfield 126, 3) := by decide +kernel
theorem dX15_tryAll_137 : decode cX15_tryAll 137 = .ok (.ifCond .eq 113, 3) := by decide +kernel
theorem dX15_tryAll_140 : decode cX15_tryAll 140 = .ok (.iconst 0, 1) := by decide +kernel
theorem dX15_tryAll_141 : decode cX15_tryAll 141 = .ok (.istore 4, 2) := by decide +kernel
theorem dX15_tryAll_143 : decode cX15_tryAll 143 = .ok (.iload 4, 2) := by decide +kernel
theorem dX15_tryAll_145 : decode cX15_tryAll 145 = .ok (.aload_n 0, 1) := by decide +kernel
theorem dX15_tryAll_146 : decode cX15_tryAll 146 = .ok (.getfield 252, 3) := by decide +kernel
theorem dX15_tryAll_149 : decode cX15_tryAll 149 = .ok (.getfield 169, 3) := by decide +kernel
theorem dX15_tryAll_152 : decode cX15_tryAll 152 = .ok (.if_icmp .ge 92, 3) := by decide +kernel
theorem dX15_tryAll_155 : decode cX15_tryAll 155 = .ok (.aload_n 1, 1) := by decide +kernel
theorem dX15_tryAll_156 : decode cX15_tryAll 156 = .ok (.getfield 396, 3) := by decide +kernel
theorem dX15_tryAll_159 : decode cX15_tryAll 159 = .ok (.iload_n 3, 1) := by decide +kernel
theorem dX15_tryAll_160 : decode cX15_tryAll 160 = .ok (.iaload, 1) := by decide +kernel
theorem dX15_tryAll_161 : decode cX15_tryAll 161 = .ok (.ifCond .ne 83, 3) := by decide +kernel
theorem dX15_tryAll_164 : decode cX15_tryAll 164 = .ok (.aload_n 0, 1) := by decide +kernel
theorem dX15_tryAll_165 : decode cX15_tryAll 165 = .ok (.iload 4, 2) := by decide +kernel
theorem dX15_tryAll_167 : decode cX15_tryAll 167 = .ok (.invokevirtual 495, 3) := by decide +kernel
theorem dX15_tryAll_170 : decode cX15_tryAll 170 = .ok (.ifCond .eq 31, 3) := by decide +kernel
theorem dX15_tryAll_173 : decode cX15_tryAll 173 = .ok (.iload_n 3, 1) := by decide +kernel
theorem dX15_tryAll_174 : decode cX15_tryAll 174 = .ok (.aload_n 0, 1) := by decide +kernel
theorem dX15_tryAll_175 : decode cX15_tryAll 175 = .ok (.getfield 382, 3) := by decide +kernel
theorem dX15_tryAll_178 : decode cX15_tryAll 178 = .ok (.idiv, 1) := by decide +kernel
theorem dX15_tryAll_179 : decode cX15_tryAll 179 = .ok (.ifCond .eq 18, 3) := by decide +kernel
theorem dX15_tryAll_182 : decode cX15_tryAll 182 = .ok (.iload_n 3, 1) := by decide +kernel
theorem dX15_tryAll_183 : decode cX15_tryAll 183 = .ok (.aload_n 0, 1) := by decide +kernel
theorem dX15_tryAll_184 : decode cX15_tryAll 184 = .ok (.getfield 382, 3) := by decide +kernel
theorem dX15_tryAll_187 : decode cX15_tryAll 187 = .ok (.idiv, 1) := by decide +kernel
theorem dX15_tryAll_188 : decode cX15_tryAll 188 = .ok (.aload_n 0, 1) := by decide +kernel
theorem dX15_tryAll_189 : decode cX15_tryAll 189 = .ok (.getfield 383, 3) := by decide +kernel
theorem dX15_tryAll_192 : decode cX15_tryAll 192 = .ok (.iconst 1, 1) := by decide +kernel
theorem dX15_tryAll_193 : decode cX15_tryAll 193 = .ok (.isub, 1) := by decide +kernel
theorem dX15_tryAll_194 : decode cX15_tryAll 194 = .ok (.if_icmp .ne 7, 3) := by decide +kernel
theorem dX15_tryAll_197 : decode cX15_tryAll 197 = .ok (.iconst 1, 1) := by decide +kernel
theorem dX15_tryAll_198 : decode cX15_tryAll 198 = .ok (.goto 4, 3) := by decide +kernel
theorem dX15_tryAll_201 : decode cX15_tryAll 201 = .ok (.iconst 0, 1) := by decide +kernel
theorem dX15_tryAll_202 : decode cX15_tryAll 202 = .ok (.istore 5, 2) := by decide +kernel
theorem dX15_tryAll_204 : decode cX15_tryAll 204 = .ok (.aload_n 1, 1) := by decide +kernel
theorem dX15_tryAll_205 : decode cX15_tryAll 205 = .ok (.getfield 444, 3) := by decide +kernel
theorem dX15_tryAll_208 : decode cX15_tryAll 208 = .ok (.iconst 2, 1) := by decide +kernel
theorem dX15_tryAll_209 : decode cX15_tryAll 209 = .ok (.iload 4, 2) := by decide +kernel
theorem dX15_tryAll_211 : decode cX15_tryAll 211 = .ok (.imul, 1) := by decide +kernel
theorem dX15_tryAll_212 : decode cX15_tryAll 212 = .ok (.aload_n 1, 1) := by decide +kernel
theorem dX15_tryAll_213 : decode cX15_tryAll 213 = .ok (.getfield 452, 3) := by decide +kernel
theorem dX15_tryAll_216 : decode cX15_tryAll 216 = .ok (.iadd, 1) := by decide +kernel
theorem dX15_tryAll_217 : decode cX15_tryAll 217 = .ok (.iaload, 1) := by decide +kernel
theorem dX15_tryAll_218 : decode cX15_tryAll 218 = .ok (.ifCond .le 20, 3) := by decide +kernel
theorem dX15_tryAll_221 : decode cX15_tryAll 221 = .ok (.iload 5, 2) := by decide +kernel
theorem dX15_tryAll_223 : decode cX15_tryAll 223 = .ok (.ifCond .ne 15, 3) := by decide +kernel
theorem dX15_tryAll_226 : decode cX15_tryAll 226 = .ok (.aload_n 2, 1) := by decide +kernel
theorem dX15_tryAll_227 : decode cX15_tryAll 227 = .ok (.iconst (-1), 1) := by decide +kernel
theorem dX15_tryAll_228 : decode cX15_tryAll 228 = .ok (.iload_n 3, 1) := by decide +kernel
theorem dX15_tryAll_229 : decode cX15_tryAll 229 = .ok (.iload 4, 2) := by decide +kernel
theorem dX15_tryAll_231 : decode cX15_tryAll 231 = .ok (.iconst (-1), 1) := by decide +kernel
theorem dX15_tryAll_232 : decode cX15_tryAll 232 = .ok (.iconst (-1), 1) := by decide +kernel
theorem dX15_tryAll_233 : decode cX15_tryAll 233 = .ok (.iconst 3, 1) := by decide +kernel
theorem dX15_tryAll_234 : decode cX15_tryAll 234 = .ok (.iconst 0, 1) := by decide +kernel
theorem dX15_tryAll_235 : decode cX15_tryAll 235 = .ok (.invokevirtual 590, 3) := by decide +kernel
theorem dX15_tryAll_238 : decode cX15_tryAll 238 = .ok (.iinc 4 1, 3) := by decide +kernel
theorem dX15_tryAll_241 : decode cX15_tryAll 241 = .ok (.goto (-98), 3) := by decide +kernel
theorem dX15_tryAll_244 : decode cX15_tryAll 244 = .ok (.iinc 3 1, 3) := by decide +kernel
theorem dX15_tryAll_247 : decode cX15_tryAll 247 = .ok (.goto (-125), 3) := by decide +kernel
theorem dX15_tryAll_250 : decode cX15_tryAll 250 = .ok (.return_, 1) := by decide +kernel
set_option maxRecDepth 20000 in
theorem moX15_tryAll_250 {o : Hp} {F : Nat} {h : Hp} (hE : sX15_tryAll_250 F h  = some o) : Le h o := by
  exact le_some1 hE
set_option maxRecDepth 20000 in
theorem moX15_tryAll_244 {o : Hp} {k_122 : Hp → Nat → Nat → Nat → Int32 → Option (Hp)} {F : Nat} (mk_122 : ∀ (h : Hp) (x0 : Nat) (x1 : Nat) (x2 : Nat) (x3 : Int32), k_122 h x0 x1 x2 x3 = some o → Le h o) {h : Hp} {x0 : Nat} {x1 : Nat} {x2 : Nat} {x3 : Int32} (hE : sX15_tryAll_244 F k_122 h x0 x1 x2 x3 = some o) : Le h o := by
  obtain ⟨v_1, ev_1, hE⟩ := nm_e2 hE
  exact mk_122 _ _ _ _ _ hE
set_option maxRecDepth 20000 in
theorem moX15_tryAll_238 {o : Hp} {k_122 : Hp → Nat → Nat → Nat → Int32 → Option (Hp)} {k_143 : Hp → Nat → Nat → Nat → Int32 → Int32 → Option (Hp)} {F : Nat} (mk_122 : ∀ (h : Hp) (x0 : Nat) (x1 : Nat) (x2 : Nat) (x3 : Int32), k_122 h x0 x1 x2 x3 = some o → Le h o) (mk_143 : ∀ (h : Hp) (x0 : Nat) (x1 : Nat) (x2 : Nat) (x3 : Int32) (x4 : Int32), k_143 h x0 x1 x2 x3 x4 = some o → Le h o) {h : Hp} {x0 : Nat} {x1 : Nat} {x2 : Nat} {x3 : Int32} {x4 : Int32} (hE : sX15_tryAll_238 F k_122 k_143 h x0 x1 x2 x3 x4 = some o) : Le h o := by
  obtain ⟨v_1, ev_1, hE⟩ := nm_e2 hE
  exact mk_143 _ _ _ _ _ _ hE
set_option maxRecDepth 20000 in
theorem moX15_tryAll_202 {o : Hp} {k_122 : Hp → Nat → Nat → Nat → Int32 → Option (Hp)} {k_143 : Hp → Nat → Nat → Nat → Int32 → Int32 → Option (Hp)} {F : Nat} (mk_122 : ∀ (h : Hp) (x0 : Nat) (x1 : Nat) (x2 : Nat) (x3 : Int32), k_122 h x0 x1 x2 x3 = some o → Le h o) (mk_143 : ∀ (h : Hp) (x0 : Nat) (x1 : Nat) (x2 : Nat) (x3 : Int32) (x4 : Int32), k_143 h x0 x1 x2 x3 x4 = some o → Le h o) {h : Hp} {x0 : Nat} {x1 : Nat} {x2 : Nat} {x3 : Int32} {x4 : Int32} {t0 : Int32} (hE : sX15_tryAll_202 F k_122 k_143 h x0 x1 x2 x3 x4 t0 = some o) : Le h o := by
  obtain ⟨r_1, er_1, hE⟩ := cl_e hE
  obtain ⟨g_2, hE⟩ := gd_e hE
  rcases br_e hE with ⟨_, hE⟩ | ⟨_, hE⟩
  · exact moX15_tryAll_238 mk_122 mk_143 hE
  · rcases br_e hE with ⟨_, hE⟩ | ⟨_, hE⟩
    · obtain ⟨o_5, eo_5, hE⟩ := cl_e hE
      refine (moX13_add eo_5).tr ?_
      exact moX15_tryAll_238 mk_122 mk_143 hE
    · exact moX15_tryAll_238 mk_122 mk_143 hE
set_option maxRecDepth 20000 in
theorem moX15_tryAll_201 {o : Hp} {k_122 : Hp → Nat → Nat → Nat → Int32 → Option (Hp)} {k_143 : Hp → Nat → Nat → Nat → Int32 → Int32 → Option (Hp)} {F : Nat} (mk_122 : ∀ (h : Hp) (x0 : Nat) (x1 : Nat) (x2 : Nat) (x3 : Int32), k_122 h x0 x1 x2 x3 = some o → Le h o) (mk_143 : ∀ (h : Hp) (x0 : Nat) (x1 : Nat) (x2 : Nat) (x3 : Int32) (x4 : Int32), k_143 h x0 x1 x2 x3 x4 = some o → Le h o) {h : Hp} {x0 : Nat} {x1 : Nat} {x2 : Nat} {x3 : Int32} {x4 : Int32} (hE : sX15_tryAll_201 F k_122 k_143 h x0 x1 x2 x3 x4 = some o) : Le h o := by
  exact moX15_tryAll_202 mk_122 mk_143 hE
set_option maxRecDepth 20000 in
theorem moX15_tryAll_197 {o : Hp} {k_122 : Hp → Nat → Nat → Nat → Int32 → Option (Hp)} {k_143 : Hp → Nat → Nat → Nat → Int32 → Int32 → Option (Hp)} {F : Nat} (mk_122 : ∀ (h : Hp) (x0 : Nat) (x1 : Nat) (x2 : Nat) (x3 : Int32), k_122 h x0 x1 x2 x3 = some o → Le h o) (mk_143 : ∀ (h : Hp) (x0 : Nat) (x1 : Nat) (x2 : Nat) (x3 : Int32) (x4 : Int32), k_143 h x0 x1 x2 x3 x4 = some o → Le h o) {h : Hp} {x0 : Nat} {x1 : Nat} {x2 : Nat} {x3 : Int32} {x4 : Int32} (hE : sX15_tryAll_197 F k_122 k_143 h x0 x1 x2 x3 x4 = some o) : Le h o := by
  exact moX15_tryAll_202 mk_122 mk_143 hE
set_option maxRecDepth 20000 in
theorem moX15_tryAll_143 {o : Hp} {k_122 : Hp → Nat → Nat → Nat → Int32 → Option (Hp)} {F : Nat} (mk_122 : ∀ (h : Hp) (x0 : Nat) (x1 : Nat) (x2 : Nat) (x3 : Int32), k_122 h x0 x1 x2 x3 = some o → Le h o) : ∀ (f : Nat) {h : Hp} {x0 : Nat} {x1 : Nat} {x2 : Nat} {x3 : Int32} {x4 : Int32}, sX15_tryAll_143 F k_122 f h x0 x1 x2 x3 x4 = some o → Le h o := by
  intro f
  induction f with
  | zero =>
    intro h x0 x1 x2 x3 x4 hE
    rw [sX15_tryAll_143] at hE
    cases hE
  | succ f ih =>
    intro h x0 x1 x2 x3 x4 hE
    rw [sX15_tryAll_143] at hE
    have mk_143 : ∀ (h : Hp) (x0 : Nat) (x1 : Nat) (x2 : Nat) (x3 : Int32) (x4 : Int32), sX15_tryAll_143 F k_122 f h x0 x1 x2 x3 x4 = some o → Le h o := fun h x0 x1 x2 x3 x4 hE => ih hE
    obtain ⟨r_1, er_1, hE⟩ := cl_e hE
    rcases br_e hE with ⟨_, hE⟩ | ⟨_, hE⟩
    · exact moX15_tryAll_244 mk_122 hE
    · obtain ⟨r_3, er_3, hE⟩ := cl_e hE
      obtain ⟨g_4, hE⟩ := gd_e hE
      rcases br_e hE with ⟨_, hE⟩ | ⟨_, hE⟩
      · obtain ⟨o_6, eo_6, hE⟩ := cl_e hE
        refine (moX15_becomesOthers eo_6).tr ?_
        rcases br_e hE with ⟨_, hE⟩ | ⟨_, hE⟩
        · exact moX15_tryAll_201 mk_122 mk_143 hE
        · obtain ⟨g_8, hE⟩ := gd_e hE
          rcases br_e hE with ⟨_, hE⟩ | ⟨_, hE⟩
          · exact moX15_tryAll_197 mk_122 mk_143 hE
          · obtain ⟨g_10, hE⟩ := gd_e hE
            rcases br_e hE with ⟨_, hE⟩ | ⟨_, hE⟩
            · exact moX15_tryAll_197 mk_122 mk_143 hE
            · exact moX15_tryAll_201 mk_122 mk_143 hE
      · exact moX15_tryAll_244 mk_122 hE
set_option maxRecDepth 20000 in
theorem moX15_tryAll_122 {o : Hp} {F : Nat} : ∀ (f : Nat) {h : Hp} {x0 : Nat} {x1 : Nat} {x2 : Nat} {x3 : Int32}, sX15_tryAll_122 F f h x0 x1 x2 x3 = some o → Le h o := by
  intro f
  induction f with
  | zero =>
    intro h x0 x1 x2 x3 hE
    rw [sX15_tryAll_122] at hE
    cases hE
  | succ f ih =>
    intro h x0 x1 x2 x3 hE
    rw [sX15_tryAll_122] at hE
    have mk_122 : ∀ (h : Hp) (x0 : Nat) (x1 : Nat) (x2 : Nat) (x3 : Int32), sX15_tryAll_122 F f h x0 x1 x2 x3 = some o → Le h o := fun h x0 x1 x2 x3 hE => ih hE
    rcases br_e hE with ⟨_, hE⟩ | ⟨_, hE⟩
    · exact moX15_tryAll_250 hE
    · obtain ⟨r_2, er_2, hE⟩ := cl_e hE
      rcases br_e hE with ⟨_, hE⟩ | ⟨_, hE⟩
      · exact moX15_tryAll_250 hE
      · exact moX15_tryAll_143 mk_122 _ hE
set_option maxRecDepth 20000 in
theorem moX15_tryAll_114 {o : Hp} {k_7 : Hp → Nat → Nat → Nat → Int32 → Option (Hp)} {F : Nat} (mk_7 : ∀ (h : Hp) (x0 : Nat) (x1 : Nat) (x2 : Nat) (x3 : Int32), k_7 h x0 x1 x2 x3 = some o → Le h o) {h : Hp} {x0 : Nat} {x1 : Nat} {x2 : Nat} {x3 : Int32} (hE : sX15_tryAll_114 F k_7 h x0 x1 x2 x3 = some o) : Le h o := by
  obtain ⟨v_1, ev_1, hE⟩ := nm_e2 hE
  exact mk_7 _ _ _ _ _ hE
set_option maxRecDepth 20000 in
theorem moX15_tryAll_108 {o : Hp} {k_7 : Hp → Nat → Nat → Nat → Int32 → Option (Hp)} {k_50 : Hp → Nat → Nat → Nat → Int32 → Int32 → Int32 → Option (Hp)} {F : Nat} (mk_7 : ∀ (h : Hp) (x0 : Nat) (x1 : Nat) (x2 : Nat) (x3 : Int32), k_7 h x0 x1 x2 x3 = some o → Le h o) (mk_50 : ∀ (h : Hp) (x0 : Nat) (x1 : Nat) (x2 : Nat) (x3 : Int32) (x4 : Int32) (x5 : Int32), k_50 h x0 x1 x2 x3 x4 x5 = some o → Le h o) {h : Hp} {x0 : Nat} {x1 : Nat} {x2 : Nat} {x3 : Int32} {x4 : Int32} {x5 : Int32} (hE : sX15_tryAll_108 F k_7 k_50 h x0 x1 x2 x3 x4 x5 = some o) : Le h o := by
  obtain ⟨v_1, ev_1, hE⟩ := nm_e2 hE
  exact mk_50 _ _ _ _ _ _ _ hE
set_option maxRecDepth 20000 in
theorem moX15_tryAll_84 {o : Hp} {k_7 : Hp → Nat → Nat → Nat → Int32 → Option (Hp)} {k_50 : Hp → Nat → Nat → Nat → Int32 → Int32 → Int32 → Option (Hp)} {F : Nat} (mk_7 : ∀ (h : Hp) (x0 : Nat) (x1 : Nat) (x2 : Nat) (x3 : Int32), k_7 h x0 x1 x2 x3 = some o → Le h o) (mk_50 : ∀ (h : Hp) (x0 : Nat) (x1 : Nat) (x2 : Nat) (x3 : Int32) (x4 : Int32) (x5 : Int32), k_50 h x0 x1 x2 x3 x4 x5 = some o → Le h o) {h : Hp} {x0 : Nat} {x1 : Nat} {x2 : Nat} {x3 : Int32} {x4 : Int32} {x5 : Int32} (hE : sX15_tryAll_84 F k_7 k_50 h x0 x1 x2 x3 x4 x5 = some o) : Le h o := by
  obtain ⟨o_1, eo_1, hE⟩ := cl_e hE
  refine (moX15_manOf eo_1).tr ?_
  obtain ⟨r_2, er_2, hE⟩ := cl_e hE
  rcases br_e hE with ⟨_, hE⟩ | ⟨_, hE⟩
  · obtain ⟨o_4, eo_4, hE⟩ := cl_e hE
    refine (moX15_tryCastling eo_4).tr ?_
    exact moX15_tryAll_108 mk_7 mk_50 hE
  · exact moX15_tryAll_108 mk_7 mk_50 hE
set_option maxRecDepth 20000 in
theorem moX15_tryAll_50 {o : Hp} {k_7 : Hp → Nat → Nat → Nat → Int32 → Option (Hp)} {F : Nat} (mk_7 : ∀ (h : Hp) (x0 : Nat) (x1 : Nat) (x2 : Nat) (x3 : Int32), k_7 h x0 x1 x2 x3 = some o → Le h o) : ∀ (f : Nat) {h : Hp} {x0 : Nat} {x1 : Nat} {x2 : Nat} {x3 : Int32} {x4 : Int32} {x5 : Int32}, sX15_tryAll_50 F k_7 f h x0 x1 x2 x3 x4 x5 = some o → Le h o := by
  intro f
  induction f with
  | zero =>
    intro h x0 x1 x2 x3 x4 x5 hE
    rw [sX15_tryAll_50] at hE
    cases hE
  | succ f ih =>
    intro h x0 x1 x2 x3 x4 x5 hE
    rw [sX15_tryAll_50] at hE
    have mk_50 : ∀ (h : Hp) (x0 : Nat) (x1 : Nat) (x2 : Nat) (x3 : Int32) (x4 : Int32) (x5 : Int32), sX15_tryAll_50 F k_7 f h x0 x1 x2 x3 x4 x5 = some o → Le h o := fun h x0 x1 x2 x3 x4 x5 hE => ih hE
    rcases br_e hE with ⟨_, hE⟩ | ⟨_, hE⟩
    · exact moX15_tryAll_114 mk_7 hE
    · obtain ⟨r_2, er_2, hE⟩ := cl_e hE
      obtain ⟨g_3, hE⟩ := gd_e hE
      rcases br_e hE with ⟨_, hE⟩ | ⟨_, hE⟩
      · exact moX15_tryAll_84 mk_7 mk_50 hE
      · obtain ⟨o_5, eo_5, hE⟩ := cl_e hE
        refine (moX15_manOf eo_5).tr ?_
        obtain ⟨o_6, eo_6, hE⟩ := cl_e hE
        refine (moX15_trySteps eo_6).tr ?_
        exact moX15_tryAll_84 mk_7 mk_50 hE
set_option maxRecDepth 20000 in
theorem moX15_tryAll_7 {o : Hp} {F : Nat} : ∀ (f : Nat) {h : Hp} {x0 : Nat} {x1 : Nat} {x2 : Nat} {x3 : Int32}, sX15_tryAll_7 F f h x0 x1 x2 x3 = some o → Le h o := by
  intro f
  induction f with
  | zero =>
    intro h x0 x1 x2 x3 hE
    rw [sX15_tryAll_7] at hE
    cases hE
  | succ f ih =>
    intro h x0 x1 x2 x3 hE
    rw [sX15_tryAll_7] at hE
    have mk_7 : ∀ (h : Hp) (x0 : Nat) (x1 : Nat) (x2 : Nat) (x3 : Int32), sX15_tryAll_7 F f h x0 x1 x2 x3 = some o → Le h o := fun h x0 x1 x2 x3 hE => ih hE
    rcases br_e hE with ⟨_, hE⟩ | ⟨_, hE⟩
    · exact moX15_tryAll_122 _ hE
    · obtain ⟨r_2, er_2, hE⟩ := cl_e hE
      obtain ⟨g_3, hE⟩ := gd_e hE
      obtain ⟨v_4, ev_4, hE⟩ := nm_e2 hE
      rcases br_e hE with ⟨_, hE⟩ | ⟨_, hE⟩
      · exact moX15_tryAll_114 mk_7 hE
      · obtain ⟨o_6, eo_6, hE⟩ := cl_e hE
        refine (moX15_sideOf eo_6).tr ?_
        rcases br_e hE with ⟨_, hE⟩ | ⟨_, hE⟩
        · obtain ⟨o_8, eo_8, hE⟩ := cl_e hE
          refine (moX15_lead eo_8).tr ?_
          exact moX15_tryAll_50 mk_7 _ hE
        · exact moX15_tryAll_114 mk_7 hE
set_option maxRecDepth 20000 in
theorem moX15_tryAll {o : Hp} {F : Nat} {h : Hp} {x0 : Nat} {x1 : Nat} {x2 : Nat} (hE : sX15_tryAll F h x0 x1 x2 = some o) : Le h o := by
  obtain ⟨h_1, eh_1, hE⟩ := nm_e2 hE
  refine (le_I eh_1).tr ?_
  exact moX15_tryAll_7 _ hE
set_option maxRecDepth 20000 in
theorem bX15_tryAll_250 {p : Program} {l : Launch} {e : Env} {s : State} {m : MethodId} {args : Array Value} {below : List Frame} {meth : Method} {c : Code} {X : Ec} {h0 : Hp} {o : Hp} {F : Nat} (C : Cx X p s m args meth c RX15 cX15_tryAll 6 none "tryAll") {h : Hp} {H : Heap} {locs : List Loc} (hkm : Km h0 h) (hW : Wx X h H) (hZ : va_S (aA (eB X)) s.heap H locs) (ls : Array Slot) (hl : lv_has ls 6 []) (hE : sX15_tryAll_250 F h  = some o) : W p l e (rm 5 132) s m args below meth c H locs 0 0 (MQ below (QV X h0 o) args s 0 0 (aA (eB X))) (F0 m 250 ls []) := by
  exact x_vret C rfl hW hZ hkm hE dX15_tryAll_250
set_option maxRecDepth 20000 in
theorem bX15_tryAll_244 {p : Program} {l : Launch} {e : Env} {s : State} {m : MethodId} {args : Array Value} {below : List Frame} {meth : Method} {c : Code} {X : Ec} {h0 : Hp} {o : Hp} {k_122 : Hp → Nat → Nat → Nat → Int32 → Option (Hp)} {F : Nat} (C : Cx X p s m args meth c RX15 cX15_tryAll 6 none "tryAll") (hk_122 : ∀ (h : Hp) (x0 : Nat) (x1 : Nat) (x2 : Nat) (x3 : Int32) (H : Heap) (locs : List Loc), hK h x0 = 15 → hK h x1 = 12 → hK h x2 = 13 → Km h0 h → Wx X h H → va_S (aA (eB X)) s.heap H locs → ∀ (ls : Array Slot), lv_has ls 6 [(0, .ref x0), (1, .ref x1), (2, .ref x2), (3, .int x3)] → k_122 h x0 x1 x2 x3 = some o → W p l e (rm 5 132) s m args below meth c H locs 0 0 (MQ below (QV X h0 o) args s 0 0 (aA (eB X))) (F0 m 122 ls [])) {h : Hp} {x0 : Nat} {x1 : Nat} {x2 : Nat} {x3 : Int32} {H : Heap} {locs : List Loc} (k_x0 : hK h x0 = 15) (k_x1 : hK h x1 = 12) (k_x2 : hK h x2 = 13) (hkm : Km h0 h) (hW : Wx X h H) (hZ : va_S (aA (eB X)) s.heap H locs) (ls : Array Slot) (hl : lv_has ls 6 [(0, .ref x0), (1, .ref x1), (2, .ref x2), (3, .int x3)]) (hE : sX15_tryAll_244 F k_122 h x0 x1 x2 x3 = some o) : W p l e (rm 5 132) s m args below meth c H locs 0 0 (MQ below (QV X h0 o) args s 0 0 (aA (eB X))) (F0 m 244 ls []) := by
  obtain ⟨v_1, ev_1, hE⟩ := nm_e2 hE
  refine lv_iinc (v := v_1) (lv' := [(3, .int v_1), (0, .ref x0), (1, .ref x1), (2, .ref x2)]) C.1 C.2.1 dX15_tryAll_244 hl (k := 3) rfl (by rw [ev_1]; rfl) (by decide) rfl (fun ls hl => ?_)
  refine lv_goto (tgt := 122) C.1 C.2.1 dX15_tryAll_247 (by decide) ?_
  exact hk_122 _ _ _ _ _ _ _ k_x0 k_x1 k_x2 hkm hW hZ _ (lv_sub hl [1, 2, 3, 0] rfl) hE
set_option maxRecDepth 20000 in
theorem bX15_tryAll_238 {p : Program} {l : Launch} {e : Env} {s : State} {m : MethodId} {args : Array Value} {below : List Frame} {meth : Method} {c : Code} {X : Ec} {h0 : Hp} {o : Hp} {k_122 : Hp → Nat → Nat → Nat → Int32 → Option (Hp)} {k_143 : Hp → Nat → Nat → Nat → Int32 → Int32 → Option (Hp)} {F : Nat} (C : Cx X p s m args meth c RX15 cX15_tryAll 6 none "tryAll") (hk_122 : ∀ (h : Hp) (x0 : Nat) (x1 : Nat) (x2 : Nat) (x3 : Int32) (H : Heap) (locs : List Loc), hK h x0 = 15 → hK h x1 = 12 → hK h x2 = 13 → Km h0 h → Wx X h H → va_S (aA (eB X)) s.heap H locs → ∀ (ls : Array Slot), lv_has ls 6 [(0, .ref x0), (1, .ref x1), (2, .ref x2), (3, .int x3)] → k_122 h x0 x1 x2 x3 = some o → W p l e (rm 5 132) s m args below meth c H locs 0 0 (MQ below (QV X h0 o) args s 0 0 (aA (eB X))) (F0 m 122 ls [])) (hk_143 : ∀ (h : Hp) (x0 : Nat) (x1 : Nat) (x2 : Nat) (x3 : Int32) (x4 : Int32) (H : Heap) (locs : List Loc), hK h x0 = 15 → hK h x1 = 12 → hK h x2 = 13 → Km h0 h → Wx X h H → va_S (aA (eB X)) s.heap H locs → ∀ (ls : Array Slot), lv_has ls 6 [(0, .ref x0), (1, .ref x1), (2, .ref x2), (3, .int x3), (4, .int x4)] → k_143 h x0 x1 x2 x3 x4 = some o → W p l e (rm 5 132) s m args below meth c H locs 0 0 (MQ below (QV X h0 o) args s 0 0 (aA (eB X))) (F0 m 143 ls [])) {h : Hp} {x0 : Nat} {x1 : Nat} {x2 : Nat} {x3 : Int32} {x4 : Int32} {H : Heap} {locs : List Loc} (k_x0 : hK h x0 = 15) (k_x1 : hK h x1 = 12) (k_x2 : hK h x2 = 13) (hkm : Km h0 h) (hW : Wx X h H) (hZ : va_S (aA (eB X)) s.heap H locs) (ls : Array Slot) (hl : lv_has ls 6 [(0, .ref x0), (1, .ref x1), (2, .ref x2), (3, .int x3), (4, .int x4)]) (hE : sX15_tryAll_238 F k_122 k_143 h x0 x1 x2 x3 x4 = some o) : W p l e (rm 5 132) s m args below meth c H locs 0 0 (MQ below (QV X h0 o) args s 0 0 (aA (eB X))) (F0 m 238 ls []) := by
  obtain ⟨v_1, ev_1, hE⟩ := nm_e2 hE
  refine lv_iinc (v := v_1) (lv' := [(4, .int v_1), (0, .ref x0), (1, .ref x1), (2, .ref x2), (3, .int x3)]) C.1 C.2.1 dX15_tryAll_238 hl (k := 4) rfl (by rw [ev_1]; rfl) (by decide) rfl (fun ls hl => ?_)
  refine lv_goto (tgt := 143) C.1 C.2.1 dX15_tryAll_241 (by decide) ?_
  exact hk_143 _ _ _ _ _ _ _ _ k_x0 k_x1 k_x2 hkm hW hZ _ (lv_sub hl [1, 2, 3, 4, 0] rfl) hE
set_option maxRecDepth 20000 in
theorem bX15_tryAll_202 {p : Program} {l : Launch} {e : Env} {s : State} {m : MethodId} {args : Array Value} {below : List Frame} {meth : Method} {c : Code} {X : Ec} {h0 : Hp} {o : Hp} {k_122 : Hp → Nat → Nat → Nat → Int32 → Option (Hp)} {k_143 : Hp → Nat → Nat → Nat → Int32 → Int32 → Option (Hp)} {F : Nat} (C : Cx X p s m args meth c RX15 cX15_tryAll 6 none "tryAll") (hk_122 : ∀ (h : Hp) (x0 : Nat) (x1 : Nat) (x2 : Nat) (x3 : Int32) (H : Heap) (locs : List Loc), hK h x0 = 15 → hK h x1 = 12 → hK h x2 = 13 → Km h0 h → Wx X h H → va_S (aA (eB X)) s.heap H locs → ∀ (ls : Array Slot), lv_has ls 6 [(0, .ref x0), (1, .ref x1), (2, .ref x2), (3, .int x3)] → k_122 h x0 x1 x2 x3 = some o → W p l e (rm 5 132) s m args below meth c H locs 0 0 (MQ below (QV X h0 o) args s 0 0 (aA (eB X))) (F0 m 122 ls [])) (hk_143 : ∀ (h : Hp) (x0 : Nat) (x1 : Nat) (x2 : Nat) (x3 : Int32) (x4 : Int32) (H : Heap) (locs : List Loc), hK h x0 = 15 → hK h x1 = 12 → hK h x2 = 13 → Km h0 h → Wx X h H → va_S (aA (eB X)) s.heap H locs → ∀ (ls : Array Slot), lv_has ls 6 [(0, .ref x0), (1, .ref x1), (2, .ref x2), (3, .int x3), (4, .int x4)] → k_143 h x0 x1 x2 x3 x4 = some o → W p l e (rm 5 132) s m args below meth c H locs 0 0 (MQ below (QV X h0 o) args s 0 0 (aA (eB X))) (F0 m 143 ls [])) {h : Hp} {x0 : Nat} {x1 : Nat} {x2 : Nat} {x3 : Int32} {x4 : Int32} {t0 : Int32} {H : Heap} {locs : List Loc} (k_x0 : hK h x0 = 15) (k_x1 : hK h x1 = 12) (k_x2 : hK h x2 = 13) (hkm : Km h0 h) (hW : Wx X h H) (hZ : va_S (aA (eB X)) s.heap H locs) (ls : Array Slot) (hl : lv_has ls 6 [(0, .ref x0), (1, .ref x1), (2, .ref x2), (3, .int x3), (4, .int x4)]) (hE : sX15_tryAll_202 F k_122 k_143 h x0 x1 x2 x3 x4 t0 = some o) : W p l e (rm 5 132) s m args below meth c H locs 0 0 (MQ below (QV X h0 o) args s 0 0 (aA (eB X))) (F0 m 202 ls [.int t0]) := by
  refine lv_istore (lv' := [(5, .int t0), (0, .ref x0), (1, .ref x1), (2, .ref x2), (3, .int x3), (4, .int x4)]) C.1 C.2.1 dX15_tryAll_202 hl (by decide) rfl (fun ls hl => ?_)
  refine lv_aload_n C.1 C.2.1 dX15_tryAll_204 rfl (lv_at hl 2 rfl) ?_
  obtain ⟨r_1, er_1, hE⟩ := cl_e hE
  refine gf_X15_444 C hW k_x1 er_1 dX15_tryAll_205 (fun k_r_1 => ?_)
  refine lv_iconst (v := (2 : Int32)) C.1 C.2.1 dX15_tryAll_208 (by decide) ?_
  refine lv_iload C.1 C.2.1 dX15_tryAll_209 (lv_at hl 5 rfl) ?_
  refine lv_imul C.1 C.2.1 dX15_tryAll_211 ?_
  refine lv_aload_n C.1 C.2.1 dX15_tryAll_212 rfl (lv_at hl 2 rfl) ?_
  refine gf_X15_452 C hW k_x1 dX15_tryAll_213 ?_
  refine lv_iadd C.1 C.2.1 dX15_tryAll_216 ?_
  obtain ⟨g_2, hE⟩ := gd_e hE
  refine y_iald C hW k_r_1 g_2 dX15_tryAll_217 ?_
  refine lv_if_le (tgt := 238) C.1 C.2.1 dX15_tryAll_218 (by decide) (fun c_3 => ?_) (fun c_3 => ?_)
  · have hE := br_p hE c_3
    exact bX15_tryAll_238 C hk_122 hk_143 k_x0 k_x1 k_x2 hkm hW hZ _ (lv_sub hl [1, 2, 3, 4, 5] rfl) hE
  · have hE := br_n hE c_3
    refine lv_iload C.1 C.2.1 dX15_tryAll_221 (lv_at hl 0 rfl) ?_
    refine lv_if_ne (tgt := 238) C.1 C.2.1 dX15_tryAll_223 (by decide) (fun c_4 => ?_) (fun c_4 => ?_)
    · have hE := br_n hE c_4
      exact bX15_tryAll_238 C hk_122 hk_143 k_x0 k_x1 k_x2 hkm hW hZ _ (lv_sub hl [1, 2, 3, 4, 5] rfl) hE
    · have hE := br_p hE c_4
      refine lv_aload_n C.1 C.2.1 dX15_tryAll_226 rfl (lv_at hl 3 rfl) ?_
      refine lv_iconst (v := (-1 : Int32)) C.1 C.2.1 dX15_tryAll_227 (by decide) ?_
      refine lv_iload_n C.1 C.2.1 dX15_tryAll_228 rfl (lv_at hl 4 rfl) ?_
      refine lv_iload C.1 C.2.1 dX15_tryAll_229 (lv_at hl 5 rfl) ?_
      refine lv_iconst (v := (-1 : Int32)) C.1 C.2.1 dX15_tryAll_231 (by decide) ?_
      refine lv_iconst (v := (-1 : Int32)) C.1 C.2.1 dX15_tryAll_232 (by decide) ?_
      refine lv_iconst (v := (3 : Int32)) C.1 C.2.1 dX15_tryAll_233 (by decide) ?_
      refine lv_iconst (v := (0 : Int32)) C.1 C.2.1 dX15_tryAll_234 (by decide) ?_
      obtain ⟨o_5, eo_5, hE⟩ := cl_e hE
      refine x_kV (o := o_5) (z_runV (As := [.int (-1 : Int32), .int x3, .int x4, .int (-1 : Int32), .int (-1 : Int32), .int (3 : Int32), .int (0 : Int32)]) (rest := []) C (ct_X13_add l X k_x2 eo_5) cw_X15_590 hW hZ k_x2 (by decide) rfl rfl rfl hl.1 (Nat.le_of_ble_eq_true rfl) rfl dX15_tryAll_235 ⟨Nat.le_of_ble_eq_true rfl, Nat.le_of_ble_eq_true rfl⟩ ⟨Nat.le_refl _, Nat.le_refl _⟩) hZ (fun _ _ hW km hZ => ?_)
      replace hkm := hkm.tr km
      replace k_x0 := km.at k_x0 (by decide)
      replace k_x1 := km.at k_x1 (by decide)
      replace k_x2 := km.at k_x2 (by decide)
      exact bX15_tryAll_238 C hk_122 hk_143 k_x0 k_x1 k_x2 hkm hW hZ _ (lv_sub hl [1, 2, 3, 4, 5] rfl) hE
set_option maxRecDepth 20000 in
theorem bX15_tryAll_201 {p : Program} {l : Launch} {e : Env} {s : State} {m : MethodId} {args : Array Value} {below : List Frame} {meth : Method} {c : Code} {X : Ec} {h0 : Hp} {o : Hp} {k_122 : Hp → Nat → Nat → Nat → Int32 → Option (Hp)} {k_143 : Hp → Nat → Nat → Nat → Int32 → Int32 → Option (Hp)} {F : Nat} (C : Cx X p s m args meth c RX15 cX15_tryAll 6 none "tryAll") (hk_122 : ∀ (h : Hp) (x0 : Nat) (x1 : Nat) (x2 : Nat) (x3 : Int32) (H : Heap) (locs : List Loc), hK h x0 = 15 → hK h x1 = 12 → hK h x2 = 13 → Km h0 h → Wx X h H → va_S (aA (eB X)) s.heap H locs → ∀ (ls : Array Slot), lv_has ls 6 [(0, .ref x0), (1, .ref x1), (2, .ref x2), (3, .int x3)] → k_122 h x0 x1 x2 x3 = some o → W p l e (rm 5 132) s m args below meth c H locs 0 0 (MQ below (QV X h0 o) args s 0 0 (aA (eB X))) (F0 m 122 ls [])) (hk_143 : ∀ (h : Hp) (x0 : Nat) (x1 : Nat) (x2 : Nat) (x3 : Int32) (x4 : Int32) (H : Heap) (locs : List Loc), hK h x0 = 15 → hK h x1 = 12 → hK h x2 = 13 → Km h0 h → Wx X h H → va_S (aA (eB X)) s.heap H locs → ∀ (ls : Array Slot), lv_has ls 6 [(0, .ref x0), (1, .ref x1), (2, .ref x2), (3, .int x3), (4, .int x4)] → k_143 h x0 x1 x2 x3 x4 = some o → W p l e (rm 5 132) s m args below meth c H locs 0 0 (MQ below (QV X h0 o) args s 0 0 (aA (eB X))) (F0 m 143 ls [])) {h : Hp} {x0 : Nat} {x1 : Nat} {x2 : Nat} {x3 : Int32} {x4 : Int32} {H : Heap} {locs : List Loc} (k_x0 : hK h x0 = 15) (k_x1 : hK h x1 = 12) (k_x2 : hK h x2 = 13) (hkm : Km h0 h) (hW : Wx X h H) (hZ : va_S (aA (eB X)) s.heap H locs) (ls : Array Slot) (hl : lv_has ls 6 [(0, .ref x0), (1, .ref x1), (2, .ref x2), (3, .int x3), (4, .int x4)]) (hE : sX15_tryAll_201 F k_122 k_143 h x0 x1 x2 x3 x4 = some o) : W p l e (rm 5 132) s m args below meth c H locs 0 0 (MQ below (QV X h0 o) args s 0 0 (aA (eB X))) (F0 m 201 ls []) := by
  refine lv_iconst (v := (0 : Int32)) C.1 C.2.1 dX15_tryAll_201 (by decide) ?_
  exact bX15_tryAll_202 C hk_122 hk_143 k_x0 k_x1 k_x2 hkm hW hZ _ (lv_sub hl [0, 1, 2, 3, 4] rfl) hE
set_option maxRecDepth 20000 in
theorem bX15_tryAll_197 {p : Program} {l : Launch} {e : Env} {s : State} {m : MethodId} {args : Array Value} {below : List Frame} {meth : Method} {c : Code} {X : Ec} {h0 : Hp} {o : Hp} {k_122 : Hp → Nat → Nat → Nat → Int32 → Option (Hp)} {k_143 : Hp → Nat → Nat → Nat → Int32 → Int32 → Option (Hp)} {F : Nat} (C : Cx X p s m args meth c RX15 cX15_tryAll 6 none "tryAll") (hk_122 : ∀ (h : Hp) (x0 : Nat) (x1 : Nat) (x2 : Nat) (x3 : Int32) (H : Heap) (locs : List Loc), hK h x0 = 15 → hK h x1 = 12 → hK h x2 = 13 → Km h0 h → Wx X h H → va_S (aA (eB X)) s.heap H locs → ∀ (ls : Array Slot), lv_has ls 6 [(0, .ref x0), (1, .ref x1), (2, .ref x2), (3, .int x3)] → k_122 h x0 x1 x2 x3 = some o → W p l e (rm 5 132) s m args below meth c H locs 0 0 (MQ below (QV X h0 o) args s 0 0 (aA (eB X))) (F0 m 122 ls [])) (hk_143 : ∀ (h : Hp) (x0 : Nat) (x1 : Nat) (x2 : Nat) (x3 : Int32) (x4 : Int32) (H : Heap) (locs : List Loc), hK h x0 = 15 → hK h x1 = 12 → hK h x2 = 13 → Km h0 h → Wx X h H → va_S (aA (eB X)) s.heap H locs → ∀ (ls : Array Slot), lv_has ls 6 [(0, .ref x0), (1, .ref x1), (2, .ref x2), (3, .int x3), (4, .int x4)] → k_143 h x0 x1 x2 x3 x4 = some o → W p l e (rm 5 132) s m args below meth c H locs 0 0 (MQ below (QV X h0 o) args s 0 0 (aA (eB X))) (F0 m 143 ls [])) {h : Hp} {x0 : Nat} {x1 : Nat} {x2 : Nat} {x3 : Int32} {x4 : Int32} {H : Heap} {locs : List Loc} (k_x0 : hK h x0 = 15) (k_x1 : hK h x1 = 12) (k_x2 : hK h x2 = 13) (hkm : Km h0 h) (hW : Wx X h H) (hZ : va_S (aA (eB X)) s.heap H locs) (ls : Array Slot) (hl : lv_has ls 6 [(0, .ref x0), (1, .ref x1), (2, .ref x2), (3, .int x3), (4, .int x4)]) (hE : sX15_tryAll_197 F k_122 k_143 h x0 x1 x2 x3 x4 = some o) : W p l e (rm 5 132) s m args below meth c H locs 0 0 (MQ below (QV X h0 o) args s 0 0 (aA (eB X))) (F0 m 197 ls []) := by
  refine lv_iconst (v := (1 : Int32)) C.1 C.2.1 dX15_tryAll_197 (by decide) ?_
  refine lv_goto (tgt := 202) C.1 C.2.1 dX15_tryAll_198 (by decide) ?_
  exact bX15_tryAll_202 C hk_122 hk_143 k_x0 k_x1 k_x2 hkm hW hZ _ (lv_sub hl [0, 1, 2, 3, 4] rfl) hE
set_option maxRecDepth 20000 in
theorem bX15_tryAll_143 {p : Program} {l : Launch} {e : Env} {s : State} {m : MethodId} {args : Array Value} {below : List Frame} {meth : Method} {c : Code} {X : Ec} {h0 : Hp} {o : Hp} {k_122 : Hp → Nat → Nat → Nat → Int32 → Option (Hp)} {F : Nat} (C : Cx X p s m args meth c RX15 cX15_tryAll 6 none "tryAll") (hk_122 : ∀ (h : Hp) (x0 : Nat) (x1 : Nat) (x2 : Nat) (x3 : Int32) (H : Heap) (locs : List Loc), hK h x0 = 15 → hK h x1 = 12 → hK h x2 = 13 → Km h0 h → Wx X h H → va_S (aA (eB X)) s.heap H locs → ∀ (ls : Array Slot), lv_has ls 6 [(0, .ref x0), (1, .ref x1), (2, .ref x2), (3, .int x3)] → k_122 h x0 x1 x2 x3 = some o → W p l e (rm 5 132) s m args below meth c H locs 0 0 (MQ below (QV X h0 o) args s 0 0 (aA (eB X))) (F0 m 122 ls [])) : ∀ (f : Nat) {h : Hp} {x0 : Nat} {x1 : Nat} {x2 : Nat} {x3 : Int32} {x4 : Int32} {H : Heap} {locs : List Loc} (k_x0 : hK h x0 = 15) (k_x1 : hK h x1 = 12) (k_x2 : hK h x2 = 13), Km h0 h → Wx X h H → va_S (aA (eB X)) s.heap H locs → ∀ (ls : Array Slot), lv_has ls 6 [(0, .ref x0), (1, .ref x1), (2, .ref x2), (3, .int x3), (4, .int x4)] → sX15_tryAll_143 F k_122 f h x0 x1 x2 x3 x4 = some o → W p l e (rm 5 132) s m args below meth c H locs 0 0 (MQ below (QV X h0 o) args s 0 0 (aA (eB X))) (F0 m 143 ls []) := by
  intro f
  induction f with
  | zero =>
    intro h x0 x1 x2 x3 x4 H locs k_x0 k_x1 k_x2 hkm hW hZ ls hl hE
    rw [sX15_tryAll_143] at hE
    cases hE
  | succ f ih =>
    intro h x0 x1 x2 x3 x4 H locs k_x0 k_x1 k_x2 hkm hW hZ ls hl hE
    rw [sX15_tryAll_143] at hE
    have hk_143 : ∀ (h : Hp) (x0 : Nat) (x1 : Nat) (x2 : Nat) (x3 : Int32) (x4 : Int32) (H : Heap) (locs : List Loc), hK h x0 = 15 → hK h x1 = 12 → hK h x2 = 13 → Km h0 h → Wx X h H → va_S (aA (eB X)) s.heap H locs → ∀ (ls : Array Slot), lv_has ls 6 [(0, .ref x0), (1, .ref x1), (2, .ref x2), (3, .int x3), (4, .int x4)] → sX15_tryAll_143 F k_122 f h x0 x1 x2 x3 x4 = some o → W p l e (rm 5 132) s m args below meth c H locs 0 0 (MQ below (QV X h0 o) args s 0 0 (aA (eB X))) (F0 m 143 ls []) := fun h x0 x1 x2 x3 x4 H locs k_x0 k_x1 k_x2 a b c ls hl hE => ih k_x0 k_x1 k_x2 a b c ls hl hE
    refine lv_iload C.1 C.2.1 dX15_tryAll_143 (lv_at hl 4 rfl) ?_
    refine lv_aload_n C.1 C.2.1 dX15_tryAll_145 rfl (lv_at hl 0 rfl) ?_
    obtain ⟨r_1, er_1, hE⟩ := cl_e hE
    refine gf_X15_252 C hW k_x0 er_1 dX15_tryAll_146 (fun k_r_1 => ?_)
    refine gf_X15_169 C hW k_r_1 dX15_tryAll_149 ?_
    refine lv_icmp_ge (tgt := 244) C.1 C.2.1 dX15_tryAll_152 (by decide) (fun c_2 => ?_) (fun c_2 => ?_)
    · have hE := br_p hE c_2
      exact bX15_tryAll_244 C hk_122 k_x0 k_x1 k_x2 hkm hW hZ _ (lv_sub hl [0, 1, 2, 3] rfl) hE
    · have hE := br_n hE c_2
      refine lv_aload_n C.1 C.2.1 dX15_tryAll_155 rfl (lv_at hl 1 rfl) ?_
      obtain ⟨r_3, er_3, hE⟩ := cl_e hE
      refine gf_X15_396 C hW k_x1 er_3 dX15_tryAll_156 (fun k_r_3 => ?_)
      refine lv_iload_n C.1 C.2.1 dX15_tryAll_159 rfl (lv_at hl 3 rfl) ?_
      obtain ⟨g_4, hE⟩ := gd_e hE
      refine y_iald C hW k_r_3 g_4 dX15_tryAll_160 ?_
      refine lv_if_ne (tgt := 244) C.1 C.2.1 dX15_tryAll_161 (by decide) (fun c_5 => ?_) (fun c_5 => ?_)
      · have hE := br_n hE c_5
        exact bX15_tryAll_244 C hk_122 k_x0 k_x1 k_x2 hkm hW hZ _ (lv_sub hl [0, 1, 2, 3] rfl) hE
      · have hE := br_p hE c_5
        refine lv_aload_n C.1 C.2.1 dX15_tryAll_164 rfl (lv_at hl 0 rfl) ?_
        refine lv_iload C.1 C.2.1 dX15_tryAll_165 (lv_at hl 4 rfl) ?_
        obtain ⟨o_6, eo_6, hE⟩ := cl_e hE
        refine x_kI (o := o_6) (z_runV (As := [.int x4]) (rest := []) C (ct_X15_becomesOthers l X k_x0 eo_6) cw_X15_495 hW hZ k_x0 (by decide) rfl rfl rfl hl.1 (Nat.le_of_ble_eq_true rfl) rfl dX15_tryAll_167 ⟨Nat.le_of_ble_eq_true rfl, Nat.le_of_ble_eq_true rfl⟩ ⟨Nat.le_refl _, Nat.le_refl _⟩) hZ (fun _ _ hW km hZ => ?_)
        replace hkm := hkm.tr km
        replace k_x0 := km.at k_x0 (by decide)
        replace k_x1 := km.at k_x1 (by decide)
        replace k_x2 := km.at k_x2 (by decide)
        refine lv_if_eq (tgt := 201) C.1 C.2.1 dX15_tryAll_170 (by decide) (fun c_7 => ?_) (fun c_7 => ?_)
        · have hE := br_p hE c_7
          exact bX15_tryAll_201 C hk_122 hk_143 k_x0 k_x1 k_x2 hkm hW hZ _ (lv_sub hl [0, 1, 2, 3, 4] rfl) hE
        · have hE := br_n hE c_7
          refine lv_iload_n C.1 C.2.1 dX15_tryAll_173 rfl (lv_at hl 3 rfl) ?_
          refine lv_aload_n C.1 C.2.1 dX15_tryAll_174 rfl (lv_at hl 0 rfl) ?_
          refine gf_X15_382 C hW k_x0 dX15_tryAll_175 ?_
          obtain ⟨g_8, hE⟩ := gd_e hE
          refine lv_idiv C.1 C.2.1 dX15_tryAll_178 g_8 ?_
          refine lv_if_eq (tgt := 197) C.1 C.2.1 dX15_tryAll_179 (by decide) (fun c_9 => ?_) (fun c_9 => ?_)
          · have hE := br_p hE c_9
            exact bX15_tryAll_197 C hk_122 hk_143 k_x0 k_x1 k_x2 hkm hW hZ _ (lv_sub hl [0, 1, 2, 3, 4] rfl) hE
          · have hE := br_n hE c_9
            refine lv_iload_n C.1 C.2.1 dX15_tryAll_182 rfl (lv_at hl 3 rfl) ?_
            refine lv_aload_n C.1 C.2.1 dX15_tryAll_183 rfl (lv_at hl 0 rfl) ?_
            refine gf_X15_382 C hW k_x0 dX15_tryAll_184 ?_
            obtain ⟨g_10, hE⟩ := gd_e hE
            refine lv_idiv C.1 C.2.1 dX15_tryAll_187 g_10 ?_
            refine lv_aload_n C.1 C.2.1 dX15_tryAll_188 rfl (lv_at hl 0 rfl) ?_
            refine gf_X15_383 C hW k_x0 dX15_tryAll_189 ?_
            refine lv_iconst (v := (1 : Int32)) C.1 C.2.1 dX15_tryAll_192 (by decide) ?_
            refine lv_isub C.1 C.2.1 dX15_tryAll_193 ?_
            refine lv_icmp_ne (tgt := 201) C.1 C.2.1 dX15_tryAll_194 (by decide) (fun c_11 => ?_) (fun c_11 => ?_)
            · have hE := br_n hE c_11
              exact bX15_tryAll_201 C hk_122 hk_143 k_x0 k_x1 k_x2 hkm hW hZ _ (lv_sub hl [0, 1, 2, 3, 4] rfl) hE
            · have hE := br_p hE c_11
              exact bX15_tryAll_197 C hk_122 hk_143 k_x0 k_x1 k_x2 hkm hW hZ _ (lv_sub hl [0, 1, 2, 3, 4] rfl) hE
set_option maxRecDepth 20000 in
theorem bX15_tryAll_122 {p : Program} {l : Launch} {e : Env} {s : State} {m : MethodId} {args : Array Value} {below : List Frame} {meth : Method} {c : Code} {X : Ec} {h0 : Hp} {o : Hp} {F : Nat} (C : Cx X p s m args meth c RX15 cX15_tryAll 6 none "tryAll") : ∀ (f : Nat) {h : Hp} {x0 : Nat} {x1 : Nat} {x2 : Nat} {x3 : Int32} {H : Heap} {locs : List Loc} (k_x0 : hK h x0 = 15) (k_x1 : hK h x1 = 12) (k_x2 : hK h x2 = 13), Km h0 h → Wx X h H → va_S (aA (eB X)) s.heap H locs → ∀ (ls : Array Slot), lv_has ls 6 [(0, .ref x0), (1, .ref x1), (2, .ref x2), (3, .int x3)] → sX15_tryAll_122 F f h x0 x1 x2 x3 = some o → W p l e (rm 5 132) s m args below meth c H locs 0 0 (MQ below (QV X h0 o) args s 0 0 (aA (eB X))) (F0 m 122 ls []) := by
  intro f
  induction f with
  | zero =>
    intro h x0 x1 x2 x3 H locs k_x0 k_x1 k_x2 hkm hW hZ ls hl hE
    rw [sX15_tryAll_122] at hE
    cases hE
  | succ f ih =>
    intro h x0 x1 x2 x3 H locs k_x0 k_x1 k_x2 hkm hW hZ ls hl hE
    rw [sX15_tryAll_122] at hE
    have hk_122 : ∀ (h : Hp) (x0 : Nat) (x1 : Nat) (x2 : Nat) (x3 : Int32) (H : Heap) (locs : List Loc), hK h x0 = 15 → hK h x1 = 12 → hK h x2 = 13 → Km h0 h → Wx X h H → va_S (aA (eB X)) s.heap H locs → ∀ (ls : Array Slot), lv_has ls 6 [(0, .ref x0), (1, .ref x1), (2, .ref x2), (3, .int x3)] → sX15_tryAll_122 F f h x0 x1 x2 x3 = some o → W p l e (rm 5 132) s m args below meth c H locs 0 0 (MQ below (QV X h0 o) args s 0 0 (aA (eB X))) (F0 m 122 ls []) := fun h x0 x1 x2 x3 H locs k_x0 k_x1 k_x2 a b c ls hl hE => ih k_x0 k_x1 k_x2 a b c ls hl hE
    refine lv_iload_n C.1 C.2.1 dX15_tryAll_122 rfl (lv_at hl 3 rfl) ?_
    refine lv_aload_n C.1 C.2.1 dX15_tryAll_123 rfl (lv_at hl 0 rfl) ?_
    refine gf_X15_384 C hW k_x0 dX15_tryAll_124 ?_
    refine lv_icmp_ge (tgt := 250) C.1 C.2.1 dX15_tryAll_127 (by decide) (fun c_1 => ?_) (fun c_1 => ?_)
    · have hE := br_p hE c_1
      exact bX15_tryAll_250 C hkm hW hZ _ (lv_sub hl [] rfl) hE
    · have hE := br_n hE c_1
      refine lv_aload_n C.1 C.2.1 dX15_tryAll_130 rfl (lv_at hl 0 rfl) ?_
      obtain ⟨r_2, er_2, hE⟩ := cl_e hE
      refine gf_X15_252 C hW k_x0 er_2 dX15_tryAll_131 (fun k_r_2 => ?_)
      refine gf_X15_126 C hW k_r_2 dX15_tryAll_134 ?_
      refine lv_if_eq (tgt := 250) C.1 C.2.1 dX15_tryAll_137 (by decide) (fun c_3 => ?_) (fun c_3 => ?_)
      · have hE := br_p hE c_3
        exact bX15_tryAll_250 C hkm hW hZ _ (lv_sub hl [] rfl) hE
      · have hE := br_n hE c_3
        refine lv_iconst (v := (0 : Int32)) C.1 C.2.1 dX15_tryAll_140 (by decide) ?_
        refine lv_istore (lv' := [(4, .int (0 : Int32)), (0, .ref x0), (1, .ref x1), (2, .ref x2), (3, .int x3)]) C.1 C.2.1 dX15_tryAll_141 hl (by decide) rfl (fun ls hl => ?_)
        exact bX15_tryAll_143 C hk_122 F k_x0 k_x1 k_x2 hkm hW hZ _ (lv_sub hl [1, 2, 3, 4, 0] rfl) hE
set_option maxRecDepth 20000 in
theorem bX15_tryAll_114 {p : Program} {l : Launch} {e : Env} {s : State} {m : MethodId} {args : Array Value} {below : List Frame} {meth : Method} {c : Code} {X : Ec} {h0 : Hp} {o : Hp} {k_7 : Hp → Nat → Nat → Nat → Int32 → Option (Hp)} {F : Nat} (C : Cx X p s m args meth c RX15 cX15_tryAll 6 none "tryAll") (hk_7 : ∀ (h : Hp) (x0 : Nat) (x1 : Nat) (x2 : Nat) (x3 : Int32) (H : Heap) (locs : List Loc), hK h x0 = 15 → hK h x1 = 12 → hK h x2 = 13 → Km h0 h → Wx X h H → va_S (aA (eB X)) s.heap H locs → ∀ (ls : Array Slot), lv_has ls 6 [(0, .ref x0), (1, .ref x1), (2, .ref x2), (3, .int x3)] → k_7 h x0 x1 x2 x3 = some o → W p l e (rm 5 132) s m args below meth c H locs 0 0 (MQ below (QV X h0 o) args s 0 0 (aA (eB X))) (F0 m 7 ls [])) {h : Hp} {x0 : Nat} {x1 : Nat} {x2 : Nat} {x3 : Int32} {H : Heap} {locs : List Loc} (k_x0 : hK h x0 = 15) (k_x1 : hK h x1 = 12) (k_x2 : hK h x2 = 13) (hkm : Km h0 h) (hW : Wx X h H) (hZ : va_S (aA (eB X)) s.heap H locs) (ls : Array Slot) (hl : lv_has ls 6 [(0, .ref x0), (1, .ref x1), (2, .ref x2), (3, .int x3)]) (hE : sX15_tryAll_114 F k_7 h x0 x1 x2 x3 = some o) : W p l e (rm 5 132) s m args below meth c H locs 0 0 (MQ below (QV X h0 o) args s 0 0 (aA (eB X))) (F0 m 114 ls []) := by
  obtain ⟨v_1, ev_1, hE⟩ := nm_e2 hE
  refine lv_iinc (v := v_1) (lv' := [(3, .int v_1), (0, .ref x0), (1, .ref x1), (2, .ref x2)]) C.1 C.2.1 dX15_tryAll_114 hl (k := 3) rfl (by rw [ev_1]; rfl) (by decide) rfl (fun ls hl => ?_)
  refine lv_goto (tgt := 7) C.1 C.2.1 dX15_tryAll_117 (by decide) ?_
  exact hk_7 _ _ _ _ _ _ _ k_x0 k_x1 k_x2 hkm hW hZ _ (lv_sub hl [1, 2, 3, 0] rfl) hE
set_option maxRecDepth 20000 in
theorem bX15_tryAll_108 {p : Program} {l : Launch} {e : Env} {s : State} {m : MethodId} {args : Array Value} {below : List Frame} {meth : Method} {c : Code} {X : Ec} {h0 : Hp} {o : Hp} {k_7 : Hp → Nat → Nat → Nat → Int32 → Option (Hp)} {k_50 : Hp → Nat → Nat → Nat → Int32 → Int32 → Int32 → Option (Hp)} {F : Nat} (C : Cx X p s m args meth c RX15 cX15_tryAll 6 none "tryAll") (hk_7 : ∀ (h : Hp) (x0 : Nat) (x1 : Nat) (x2 : Nat) (x3 : Int32) (H : Heap) (locs : List Loc), hK h x0 = 15 → hK h x1 = 12 → hK h x2 = 13 → Km h0 h → Wx X h H → va_S (aA (eB X)) s.heap H locs → ∀ (ls : Array Slot), lv_has ls 6 [(0, .ref x0), (1, .ref x1), (2, .ref x2), (3, .int x3)] → k_7 h x0 x1 x2 x3 = some o → W p l e (rm 5 132) s m args below meth c H locs 0 0 (MQ below (QV X h0 o) args s 0 0 (aA (eB X))) (F0 m 7 ls [])) (hk_50 : ∀ (h : Hp) (x0 : Nat) (x1 : Nat) (x2 : Nat) (x3 : Int32) (x4 : Int32) (x5 : Int32) (H : Heap) (locs : List Loc), hK h x0 = 15 → hK h x1 = 12 → hK h x2 = 13 → Km h0 h → Wx X h H → va_S (aA (eB X)) s.heap H locs → ∀ (ls : Array Slot), lv_has ls 6 [(0, .ref x0), (1, .ref x1), (2, .ref x2), (3, .int x3), (4, .int x4), (5, .int x5)] → k_50 h x0 x1 x2 x3 x4 x5 = some o → W p l e (rm 5 132) s m args below meth c H locs 0 0 (MQ below (QV X h0 o) args s 0 0 (aA (eB X))) (F0 m 50 ls [])) {h : Hp} {x0 : Nat} {x1 : Nat} {x2 : Nat} {x3 : Int32} {x4 : Int32} {x5 : Int32} {H : Heap} {locs : List Loc} (k_x0 : hK h x0 = 15) (k_x1 : hK h x1 = 12) (k_x2 : hK h x2 = 13) (hkm : Km h0 h) (hW : Wx X h H) (hZ : va_S (aA (eB X)) s.heap H locs) (ls : Array Slot) (hl : lv_has ls 6 [(0, .ref x0), (1, .ref x1), (2, .ref x2), (3, .int x3), (4, .int x4), (5, .int x5)]) (hE : sX15_tryAll_108 F k_7 k_50 h x0 x1 x2 x3 x4 x5 = some o) : W p l e (rm 5 132) s m args below meth c H locs 0 0 (MQ below (QV X h0 o) args s 0 0 (aA (eB X))) (F0 m 108 ls []) := by
  obtain ⟨v_1, ev_1, hE⟩ := nm_e2 hE
  refine lv_iinc (v := v_1) (lv' := [(5, .int v_1), (0, .ref x0), (1, .ref x1), (2, .ref x2), (3, .int x3), (4, .int x4)]) C.1 C.2.1 dX15_tryAll_108 hl (k := 5) rfl (by rw [ev_1]; rfl) (by decide) rfl (fun ls hl => ?_)
  refine lv_goto (tgt := 50) C.1 C.2.1 dX15_tryAll_111 (by decide) ?_
  exact hk_50 _ _ _ _ _ _ _ _ _ k_x0 k_x1 k_x2 hkm hW hZ _ (lv_sub hl [1, 2, 3, 4, 5, 0] rfl) hE
set_option maxRecDepth 20000 in
theorem bX15_tryAll_84 {p : Program} {l : Launch} {e : Env} {s : State} {m : MethodId} {args : Array Value} {below : List Frame} {meth : Method} {c : Code} {X : Ec} {h0 : Hp} {o : Hp} {k_7 : Hp → Nat → Nat → Nat → Int32 → Option (Hp)} {k_50 : Hp → Nat → Nat → Nat → Int32 → Int32 → Int32 → Option (Hp)} {F : Nat} (C : Cx X p s m args meth c RX15 cX15_tryAll 6 none "tryAll") (hk_7 : ∀ (h : Hp) (x0 : Nat) (x1 : Nat) (x2 : Nat) (x3 : Int32) (H : Heap) (locs : List Loc), hK h x0 = 15 → hK h x1 = 12 → hK h x2 = 13 → Km h0 h → Wx X h H → va_S (aA (eB X)) s.heap H locs → ∀ (ls : Array Slot), lv_has ls 6 [(0, .ref x0), (1, .ref x1), (2, .ref x2), (3, .int x3)] → k_7 h x0 x1 x2 x3 = some o → W p l e (rm 5 132) s m args below meth c H locs 0 0 (MQ below (QV X h0 o) args s 0 0 (aA (eB X))) (F0 m 7 ls [])) (hk_50 : ∀ (h : Hp) (x0 : Nat) (x1 : Nat) (x2 : Nat) (x3 : Int32) (x4 : Int32) (x5 : Int32) (H : Heap) (locs : List Loc), hK h x0 = 15 → hK h x1 = 12 → hK h x2 = 13 → Km h0 h → Wx X h H → va_S (aA (eB X)) s.heap H locs → ∀ (ls : Array Slot), lv_has ls 6 [(0, .ref x0), (1, .ref x1), (2, .ref x2), (3, .int x3), (4, .int x4), (5, .int x5)] → k_50 h x0 x1 x2 x3 x4 x5 = some o → W p l e (rm 5 132) s m args below meth c H locs 0 0 (MQ below (QV X h0 o) args s 0 0 (aA (eB X))) (F0 m 50 ls [])) {h : Hp} {x0 : Nat} {x1 : Nat} {x2 : Nat} {x3 : Int32} {x4 : Int32} {x5 : Int32} {H : Heap} {locs : List Loc} (k_x0 : hK h x0 = 15) (k_x1 : hK h x1 = 12) (k_x2 : hK h x2 = 13) (hkm : Km h0 h) (hW : Wx X h H) (hZ : va_S (aA (eB X)) s.heap H locs) (ls : Array Slot) (hl : lv_has ls 6 [(0, .ref x0), (1, .ref x1), (2, .ref x2), (3, .int x3), (4, .int x4), (5, .int x5)]) (hE : sX15_tryAll_84 F k_7 k_50 h x0 x1 x2 x3 x4 x5 = some o) : W p l e (rm 5 132) s m args below meth c H locs 0 0 (MQ below (QV X h0 o) args s 0 0 (aA (eB X))) (F0 m 84 ls []) := by
  refine lv_iload C.1 C.2.1 dX15_tryAll_84 (lv_at hl 4 rfl) ?_
  obtain ⟨o_1, eo_1, hE⟩ := cl_e hE
  refine x_kI (o := o_1) (z_runS (As := [.int x4]) (rest := []) C (ct_X15_manOf l X eo_1) cw_X15_492 hW hZ rfl hl.1 (Nat.le_of_ble_eq_true rfl) rfl dX15_tryAll_86 ⟨Nat.le_of_ble_eq_true rfl, Nat.le_of_ble_eq_true rfl⟩ ⟨Nat.le_refl _, Nat.le_refl _⟩) hZ (fun _ _ hW km hZ => ?_)
  replace hkm := hkm.tr km
  replace k_x0 := km.at k_x0 (by decide)
  replace k_x1 := km.at k_x1 (by decide)
  replace k_x2 := km.at k_x2 (by decide)
  refine lv_aload_n C.1 C.2.1 dX15_tryAll_89 rfl (lv_at hl 0 rfl) ?_
  obtain ⟨r_2, er_2, hE⟩ := cl_e hE
  refine gf_X15_252 C hW k_x0 er_2 dX15_tryAll_90 (fun k_r_2 => ?_)
  refine gf_X15_221 C hW k_r_2 dX15_tryAll_93 ?_
  refine lv_icmp_ne (tgt := 108) C.1 C.2.1 dX15_tryAll_96 (by decide) (fun c_3 => ?_) (fun c_3 => ?_)
  · have hE := br_n hE c_3
    exact bX15_tryAll_108 C hk_7 hk_50 k_x0 k_x1 k_x2 hkm hW hZ _ (lv_sub hl [0, 1, 2, 3, 4, 5] rfl) hE
  · have hE := br_p hE c_3
    refine lv_aload_n C.1 C.2.1 dX15_tryAll_99 rfl (lv_at hl 0 rfl) ?_
    refine lv_aload_n C.1 C.2.1 dX15_tryAll_100 rfl (lv_at hl 1 rfl) ?_
    refine lv_iload_n C.1 C.2.1 dX15_tryAll_101 rfl (lv_at hl 3 rfl) ?_
    refine lv_iload C.1 C.2.1 dX15_tryAll_102 (lv_at hl 5 rfl) ?_
    refine lv_aload_n C.1 C.2.1 dX15_tryAll_104 rfl (lv_at hl 2 rfl) ?_
    obtain ⟨o_4, eo_4, hE⟩ := cl_e hE
    refine x_kV (o := o_4) (z_runV (As := [.ref x1, .int x3, .int x5, .ref x2]) (rest := []) C (ct_X15_tryCastling l X F k_x0 k_x1 k_x2 eo_4) cw_X15_586 hW hZ k_x0 (by decide) rfl rfl rfl hl.1 (Nat.le_of_ble_eq_true rfl) rfl dX15_tryAll_105 ⟨Nat.le_of_ble_eq_true rfl, Nat.le_of_ble_eq_true rfl⟩ ⟨Nat.le_refl _, Nat.le_refl _⟩) hZ (fun _ _ hW km hZ => ?_)
    replace hkm := hkm.tr km
    replace k_x0 := km.at k_x0 (by decide)
    replace k_x1 := km.at k_x1 (by decide)
    replace k_x2 := km.at k_x2 (by decide)
    exact bX15_tryAll_108 C hk_7 hk_50 k_x0 k_x1 k_x2 hkm hW hZ _ (lv_sub hl [0, 1, 2, 3, 4, 5] rfl) hE
set_option maxRecDepth 20000 in
theorem bX15_tryAll_50 {p : Program} {l : Launch} {e : Env} {s : State} {m : MethodId} {args : Array Value} {below : List Frame} {meth : Method} {c : Code} {X : Ec} {h0 : Hp} {o : Hp} {k_7 : Hp → Nat → Nat → Nat → Int32 → Option (Hp)} {F : Nat} (C : Cx X p s m args meth c RX15 cX15_tryAll 6 none "tryAll") (hk_7 : ∀ (h : Hp) (x0 : Nat) (x1 : Nat) (x2 : Nat) (x3 : Int32) (H : Heap) (locs : List Loc), hK h x0 = 15 → hK h x1 = 12 → hK h x2 = 13 → Km h0 h → Wx X h H → va_S (aA (eB X)) s.heap H locs → ∀ (ls : Array Slot), lv_has ls 6 [(0, .ref x0), (1, .ref x1), (2, .ref x2), (3, .int x3)] → k_7 h x0 x1 x2 x3 = some o → W p l e (rm 5 132) s m args below meth c H locs 0 0 (MQ below (QV X h0 o) args s 0 0 (aA (eB X))) (F0 m 7 ls [])) : ∀ (f : Nat) {h : Hp} {x0 : Nat} {x1 : Nat} {x2 : Nat} {x3 : Int32} {x4 : Int32} {x5 : Int32} {H : Heap} {locs : List Loc} (k_x0 : hK h x0 = 15) (k_x1 : hK h x1 = 12) (k_x2 : hK h x2 = 13), Km h0 h → Wx X h H → va_S (aA (eB X)) s.heap H locs → ∀ (ls : Array Slot), lv_has ls 6 [(0, .ref x0), (1, .ref x1), (2, .ref x2), (3, .int x3), (4, .int x4), (5, .int x5)] → sX15_tryAll_50 F k_7 f h x0 x1 x2 x3 x4 x5 = some o → W p l e (rm 5 132) s m args below meth c H locs 0 0 (MQ below (QV X h0 o) args s 0 0 (aA (eB X))) (F0 m 50 ls []) := by
  intro f
  induction f with
  | zero =>
    intro h x0 x1 x2 x3 x4 x5 H locs k_x0 k_x1 k_x2 hkm hW hZ ls hl hE
    rw [sX15_tryAll_50] at hE
    cases hE
  | succ f ih =>
    intro h x0 x1 x2 x3 x4 x5 H locs k_x0 k_x1 k_x2 hkm hW hZ ls hl hE
    rw [sX15_tryAll_50] at hE
    have hk_50 : ∀ (h : Hp) (x0 : Nat) (x1 : Nat) (x2 : Nat) (x3 : Int32) (x4 : Int32) (x5 : Int32) (H : Heap) (locs : List Loc), hK h x0 = 15 → hK h x1 = 12 → hK h x2 = 13 → Km h0 h → Wx X h H → va_S (aA (eB X)) s.heap H locs → ∀ (ls : Array Slot), lv_has ls 6 [(0, .ref x0), (1, .ref x1), (2, .ref x2), (3, .int x3), (4, .int x4), (5, .int x5)] → sX15_tryAll_50 F k_7 f h x0 x1 x2 x3 x4 x5 = some o → W p l e (rm 5 132) s m args below meth c H locs 0 0 (MQ below (QV X h0 o) args s 0 0 (aA (eB X))) (F0 m 50 ls []) := fun h x0 x1 x2 x3 x4 x5 H locs k_x0 k_x1 k_x2 a b c ls hl hE => ih k_x0 k_x1 k_x2 a b c ls hl hE
    refine lv_iload C.1 C.2.1 dX15_tryAll_50 (lv_at hl 5 rfl) ?_
    refine lv_aload_n C.1 C.2.1 dX15_tryAll_52 rfl (lv_at hl 0 rfl) ?_
    refine gf_X15_384 C hW k_x0 dX15_tryAll_53 ?_
    refine lv_icmp_ge (tgt := 114) C.1 C.2.1 dX15_tryAll_56 (by decide) (fun c_1 => ?_) (fun c_1 => ?_)
    · have hE := br_p hE c_1
      exact bX15_tryAll_114 C hk_7 k_x0 k_x1 k_x2 hkm hW hZ _ (lv_sub hl [0, 1, 2, 3] rfl) hE
    · have hE := br_n hE c_1
      refine lv_aload_n C.1 C.2.1 dX15_tryAll_59 rfl (lv_at hl 0 rfl) ?_
      obtain ⟨r_2, er_2, hE⟩ := cl_e hE
      refine gf_X15_272 C hW k_x0 er_2 dX15_tryAll_60 (fun k_r_2 => ?_)
      refine lv_iload C.1 C.2.1 dX15_tryAll_63 (lv_at hl 5 rfl) ?_
      obtain ⟨g_3, hE⟩ := gd_e hE
      refine y_iald C hW k_r_2 g_3 dX15_tryAll_65 ?_
      refine lv_iconst (v := (-1 : Int32)) C.1 C.2.1 dX15_tryAll_66 (by decide) ?_
      refine lv_icmp_eq (tgt := 84) C.1 C.2.1 dX15_tryAll_67 (by decide) (fun c_4 => ?_) (fun c_4 => ?_)
      · have hE := br_p hE c_4
        exact bX15_tryAll_84 C hk_7 hk_50 k_x0 k_x1 k_x2 hkm hW hZ _ (lv_sub hl [0, 1, 2, 3, 4, 5] rfl) hE
      · have hE := br_n hE c_4
        refine lv_aload_n C.1 C.2.1 dX15_tryAll_70 rfl (lv_at hl 0 rfl) ?_
        refine lv_aload_n C.1 C.2.1 dX15_tryAll_71 rfl (lv_at hl 1 rfl) ?_
        refine lv_iload_n C.1 C.2.1 dX15_tryAll_72 rfl (lv_at hl 3 rfl) ?_
        refine lv_iload C.1 C.2.1 dX15_tryAll_73 (lv_at hl 5 rfl) ?_
        refine lv_iload C.1 C.2.1 dX15_tryAll_75 (lv_at hl 4 rfl) ?_
        obtain ⟨o_5, eo_5, hE⟩ := cl_e hE
        refine x_kI (o := o_5) (z_runS (As := [.int x4]) (rest := [.int x5, .int x3, .ref x1, .ref x0]) C (ct_X15_manOf l X eo_5) cw_X15_492 hW hZ rfl hl.1 (Nat.le_of_ble_eq_true rfl) rfl dX15_tryAll_77 ⟨Nat.le_of_ble_eq_true rfl, Nat.le_of_ble_eq_true rfl⟩ ⟨Nat.le_refl _, Nat.le_refl _⟩) hZ (fun _ _ hW km hZ => ?_)
        replace hkm := hkm.tr km
        replace k_x0 := km.at k_x0 (by decide)
        replace k_x1 := km.at k_x1 (by decide)
        replace k_x2 := km.at k_x2 (by decide)
        refine lv_aload_n C.1 C.2.1 dX15_tryAll_80 rfl (lv_at hl 2 rfl) ?_
        obtain ⟨o_6, eo_6, hE⟩ := cl_e hE
        refine x_kV (o := o_6) (z_runV (As := [.ref x1, .int x3, .int x5, .int o_5.1, .ref x2]) (rest := []) C (ct_X15_trySteps l X F k_x0 k_x1 k_x2 eo_6) cw_X15_582 hW hZ k_x0 (by decide) rfl rfl rfl hl.1 (Nat.le_of_ble_eq_true rfl) rfl dX15_tryAll_81 ⟨Nat.le_of_ble_eq_true rfl, Nat.le_of_ble_eq_true rfl⟩ ⟨Nat.le_refl _, Nat.le_refl _⟩) hZ (fun _ _ hW km hZ => ?_)
        replace hkm := hkm.tr km
        replace k_x0 := km.at k_x0 (by decide)
        replace k_x1 := km.at k_x1 (by decide)
        replace k_x2 := km.at k_x2 (by decide)
        exact bX15_tryAll_84 C hk_7 hk_50 k_x0 k_x1 k_x2 hkm hW hZ _ (lv_sub hl [0, 1, 2, 3, 4, 5] rfl) hE
set_option maxRecDepth 20000 in
theorem bX15_tryAll_7 {p : Program} {l : Launch} {e : Env} {s : State} {m : MethodId} {args : Array Value} {below : List Frame} {meth : Method} {c : Code} {X : Ec} {h0 : Hp} {o : Hp} {F : Nat} (C : Cx X p s m args meth c RX15 cX15_tryAll 6 none "tryAll") : ∀ (f : Nat) {h : Hp} {x0 : Nat} {x1 : Nat} {x2 : Nat} {x3 : Int32} {H : Heap} {locs : List Loc} (k_x0 : hK h x0 = 15) (k_x1 : hK h x1 = 12) (k_x2 : hK h x2 = 13), Km h0 h → Wx X h H → va_S (aA (eB X)) s.heap H locs → ∀ (ls : Array Slot), lv_has ls 6 [(0, .ref x0), (1, .ref x1), (2, .ref x2), (3, .int x3)] → sX15_tryAll_7 F f h x0 x1 x2 x3 = some o → W p l e (rm 5 132) s m args below meth c H locs 0 0 (MQ below (QV X h0 o) args s 0 0 (aA (eB X))) (F0 m 7 ls []) := by
  intro f
  induction f with
  | zero =>
    intro h x0 x1 x2 x3 H locs k_x0 k_x1 k_x2 hkm hW hZ ls hl hE
    rw [sX15_tryAll_7] at hE
    cases hE
  | succ f ih =>
    intro h x0 x1 x2 x3 H locs k_x0 k_x1 k_x2 hkm hW hZ ls hl hE
    rw [sX15_tryAll_7] at hE
    have hk_7 : ∀ (h : Hp) (x0 : Nat) (x1 : Nat) (x2 : Nat) (x3 : Int32) (H : Heap) (locs : List Loc), hK h x0 = 15 → hK h x1 = 12 → hK h x2 = 13 → Km h0 h → Wx X h H → va_S (aA (eB X)) s.heap H locs → ∀ (ls : Array Slot), lv_has ls 6 [(0, .ref x0), (1, .ref x1), (2, .ref x2), (3, .int x3)] → sX15_tryAll_7 F f h x0 x1 x2 x3 = some o → W p l e (rm 5 132) s m args below meth c H locs 0 0 (MQ below (QV X h0 o) args s 0 0 (aA (eB X))) (F0 m 7 ls []) := fun h x0 x1 x2 x3 H locs k_x0 k_x1 k_x2 a b c ls hl hE => ih k_x0 k_x1 k_x2 a b c ls hl hE
    refine lv_iload_n C.1 C.2.1 dX15_tryAll_7 rfl (lv_at hl 3 rfl) ?_
    refine lv_aload_n C.1 C.2.1 dX15_tryAll_8 rfl (lv_at hl 0 rfl) ?_
    refine gf_X15_384 C hW k_x0 dX15_tryAll_9 ?_
    refine lv_icmp_ge (tgt := 120) C.1 C.2.1 dX15_tryAll_12 (by decide) (fun c_1 => ?_) (fun c_1 => ?_)
    · have hE := br_p hE c_1
      refine lv_iconst (v := (0 : Int32)) C.1 C.2.1 dX15_tryAll_120 (by decide) ?_
      refine lv_istore_n (lv' := [(3, .int (0 : Int32)), (0, .ref x0), (1, .ref x1), (2, .ref x2)]) C.1 C.2.1 dX15_tryAll_121 rfl hl (by decide) rfl (fun ls hl => ?_)
      exact bX15_tryAll_122 C F k_x0 k_x1 k_x2 hkm hW hZ _ (lv_sub hl [1, 2, 3, 0] rfl) hE
    · have hE := br_n hE c_1
      refine lv_aload_n C.1 C.2.1 dX15_tryAll_15 rfl (lv_at hl 1 rfl) ?_
      obtain ⟨r_2, er_2, hE⟩ := cl_e hE
      refine gf_X15_396 C hW k_x1 er_2 dX15_tryAll_16 (fun k_r_2 => ?_)
      refine lv_iload_n C.1 C.2.1 dX15_tryAll_19 rfl (lv_at hl 3 rfl) ?_
      obtain ⟨g_3, hE⟩ := gd_e hE
      refine y_iald C hW k_r_2 g_3 dX15_tryAll_20 ?_
      obtain ⟨v_4, ev_4, hE⟩ := nm_e2 hE
      refine x_nmI ev_4 ?_
      refine lv_istore (lv' := [(4, .int v_4), (0, .ref x0), (1, .ref x1), (2, .ref x2), (3, .int x3)]) C.1 C.2.1 dX15_tryAll_21 hl (by decide) rfl (fun ls hl => ?_)
      refine lv_iload C.1 C.2.1 dX15_tryAll_23 (lv_at hl 0 rfl) ?_
      refine lv_if_le (tgt := 114) C.1 C.2.1 dX15_tryAll_25 (by decide) (fun c_5 => ?_) (fun c_5 => ?_)
      · have hE := br_p hE c_5
        exact bX15_tryAll_114 C hk_7 k_x0 k_x1 k_x2 hkm hW hZ _ (lv_sub hl [1, 2, 3, 4] rfl) hE
      · have hE := br_n hE c_5
        refine lv_iload C.1 C.2.1 dX15_tryAll_28 (lv_at hl 0 rfl) ?_
        obtain ⟨o_6, eo_6, hE⟩ := cl_e hE
        refine x_kI (o := o_6) (z_runS (As := [.int v_4]) (rest := []) C (ct_X15_sideOf l X eo_6) cw_X15_489 hW hZ rfl hl.1 (Nat.le_of_ble_eq_true rfl) rfl dX15_tryAll_30 ⟨Nat.le_of_ble_eq_true rfl, Nat.le_of_ble_eq_true rfl⟩ ⟨Nat.le_refl _, Nat.le_refl _⟩) hZ (fun _ _ hW km hZ => ?_)
        replace hkm := hkm.tr km
        replace k_x0 := km.at k_x0 (by decide)
        replace k_x1 := km.at k_x1 (by decide)
        replace k_x2 := km.at k_x2 (by decide)
        refine lv_aload_n C.1 C.2.1 dX15_tryAll_33 rfl (lv_at hl 2 rfl) ?_
        refine gf_X15_452 C hW k_x1 dX15_tryAll_34 ?_
        refine lv_icmp_ne (tgt := 114) C.1 C.2.1 dX15_tryAll_37 (by decide) (fun c_7 => ?_) (fun c_7 => ?_)
        · have hE := br_n hE c_7
          exact bX15_tryAll_114 C hk_7 k_x0 k_x1 k_x2 hkm hW hZ _ (lv_sub hl [1, 2, 3, 4] rfl) hE
        · have hE := br_p hE c_7
          refine lv_aload_n C.1 C.2.1 dX15_tryAll_40 rfl (lv_at hl 1 rfl) ?_
          refine lv_aload_n C.1 C.2.1 dX15_tryAll_41 rfl (lv_at hl 2 rfl) ?_
          refine lv_iload_n C.1 C.2.1 dX15_tryAll_42 rfl (lv_at hl 4 rfl) ?_
          refine lv_iconst (v := (1 : Int32)) C.1 C.2.1 dX15_tryAll_43 (by decide) ?_
          obtain ⟨o_8, eo_8, hE⟩ := cl_e hE
          refine x_kV (o := o_8) (z_runV (As := [.ref x1, .int x3, .int (1 : Int32)]) (rest := []) C (ct_X15_lead l X F k_x0 k_x1 eo_8) cw_X15_578 hW hZ k_x0 (by decide) rfl rfl rfl hl.1 (Nat.le_of_ble_eq_true rfl) rfl dX15_tryAll_44 ⟨Nat.le_of_ble_eq_true rfl, Nat.le_of_ble_eq_true rfl⟩ ⟨Nat.le_refl _, Nat.le_refl _⟩) hZ (fun _ _ hW km hZ => ?_)
          replace hkm := hkm.tr km
          replace k_x0 := km.at k_x0 (by decide)
          replace k_x1 := km.at k_x1 (by decide)
          replace k_x2 := km.at k_x2 (by decide)
          refine lv_iconst (v := (0 : Int32)) C.1 C.2.1 dX15_tryAll_47 (by decide) ?_
          refine lv_istore (lv' := [(5, .int (0 : Int32)), (4, .int v_4), (0, .ref x0), (1, .ref x1), (2, .ref x2), (3, .int x3)]) C.1 C.2.1 dX15_tryAll_48 hl (by decide) rfl (fun ls hl => ?_)
          exact bX15_tryAll_50 C hk_7 F k_x0 k_x1 k_x2 hkm hW hZ _ (lv_sub hl [2, 3, 4, 5, 1, 0] rfl) hE
set_option maxRecDepth 20000 in
theorem ct_X15_tryAll (l : Launch) (X : Ec) (F : Nat) {h : Hp} {x0 : Nat} {x1 : Nat} {x2 : Nat} {o : Hp} (k_x0 : hK h x0 = 15) (k_x1 : hK h x1 = 12) (k_x2 : hK h x2 = 13) (hE : sX15_tryAll F h x0 x1 x2 = some o) : MetV l yX15_tryAll cX15_tryAll 6 none 5 132 X [.ref x0, .ref x1, .ref x2] h o := by
  refine x_met (by decide) (Nat.le_of_ble_eq_true rfl) ?_
  intro p e s m below meth c ls C hl hW hZ
  have hl : lv_has ls 6 [(0, .ref x0), (1, .ref x1), (2, .ref x2)] := hl
  have hkm : Km h h := Km.rf h
  refine lv_aload_n C.1 C.2.1 dX15_tryAll_0 rfl (lv_at hl 2 rfl) ?_
  refine lv_iconst (v := (0 : Int32)) C.1 C.2.1 dX15_tryAll_1 (by decide) ?_
  obtain ⟨h_1, eh_1, hE⟩ := nm_e2 hE
  refine pf_X15_575 C hW hZ k_x2 eh_1 dX15_tryAll_2 (fun _ _ hW km hZ => ?_)
  replace hkm := hkm.tr km
  replace k_x0 := km.at k_x0 (by decide)
  replace k_x1 := km.at k_x1 (by decide)
  replace k_x2 := km.at k_x2 (by decide)
  refine lv_iconst (v := (0 : Int32)) C.1 C.2.1 dX15_tryAll_5 (by decide) ?_
  refine lv_istore_n (lv' := [(3, .int (0 : Int32)), (0, .ref x0), (1, .ref x1), (2, .ref x2)]) C.1 C.2.1 dX15_tryAll_6 rfl hl (by decide) rfl (fun ls hl => ?_)
  exact bX15_tryAll_7 C F k_x0 k_x1 k_x2 hkm hW hZ _ (lv_sub hl [1, 2, 3, 0] rfl) hE
theorem dX15_leave_0 : decode cX15_leave 0 = .ok (.aload_n 1, 1) := by decide +kernel
theorem dX15_leave_1 : decode cX15_leave 1 = .ok (.getfield 396, 3) := by decide +kernel
theorem dX15_leave_4 : decode cX15_leave 4 = .ok (.iload_n 2, 1) := by decide +kernel
theorem dX15_leave_5 : decode cX15_leave 5 = .ok (.iconst 0, 1) := by decide +kernel
theorem dX15_leave_6 : decode cX15_leave 6 = .ok (.iastore, 1) := by decide +kernel
theorem dX15_leave_7 : decode cX15_leave 7 = .ok (.aload_n 1, 1) := by decide +kernel
theorem dX15_leave_8 : decode cX15_leave 8 = .ok (.dup, 1) := by decide +kernel
theorem dX15_leave_9 : decode cX15_leave 9 = .ok (.getfield 436, 3) := by decide +kernel
theorem dX15_leave_12 : decode cX15_leave 12 = .ok (.lconst 1, 1) := by decide +kernel
theorem dX15_leave_13 : decode cX15_leave 13 = .ok (.iload_n 2, 1) := by decide +kernel
theorem dX15_leave_14 : decode cX15_leave 14 = .ok (.lshl, 1) := by decide +kernel
theorem dX15_leave_15 : decode cX15_leave 15 = .ok (.ldc2_w 533, 3) := by decide +kernel
theorem dX15_leave_18 : decode cX15_leave 18 = .ok (.lxor, 1) := by decide +kernel
theorem dX15_leave_19 : decode cX15_leave 19 = .ok (.land, 1) := by decide +kernel
theorem dX15_leave_20 : decode cX15_leave 20 = .ok (.putfield 436, 3) := by decide +kernel
theorem dX15_leave_23 : decode cX15_leave 23 = .ok (.return_, 1) := by decide +kernel
set_option maxRecDepth 20000 in
theorem moX15_leave {o : Hp} {h : Hp} {x0 : Nat} {x1 : Nat} {x2 : Int32} (hE : sX15_leave h x0 x1 x2 = some o) : Le h o := by
  obtain ⟨r_1, er_1, hE⟩ := cl_e hE
  obtain ⟨g_2, hE⟩ := gd_e hE
  obtain ⟨h_3, eh_3, hE⟩ := nm_e2 hE
  refine (le_I eh_3).tr ?_
  obtain ⟨h_4, eh_4, hE⟩ := nm_e2 hE
  refine (le_J eh_4).tr ?_
  exact le_some1 hE
set_option maxRecDepth 20000 in
theorem ct_X15_leave (l : Launch) (X : Ec) {h : Hp} {x0 : Nat} {x1 : Nat} {x2 : Int32} {o : Hp} (k_x0 : hK h x0 = 15) (k_x1 : hK h x1 = 12) (hE : sX15_leave h x0 x1 x2 = some o) : MetV l yX15_leave cX15_leave 3 none 0 0 X [.ref x0, .ref x1, .int x2] h o := by
  refine x_met (by decide) (Nat.le_of_ble_eq_true rfl) ?_
  intro p e s m below meth c ls C hl hW hZ
  have hl : lv_has ls 3 [(0, .ref x0), (1, .ref x1), (2, .int x2)] := hl
  have hkm : Km h h := Km.rf h
  refine lv_aload_n C.1 C.2.1 dX15_leave_0 rfl (lv_at hl 1 rfl) ?_
  obtain ⟨r_1, er_1, hE⟩ := cl_e hE
  refine gf_X15_396 C hW k_x1 er_1 dX15_leave_1 (fun k_r_1 => ?_)
  refine lv_iload_n C.1 C.2.1 dX15_leave_4 rfl (lv_at hl 2 rfl) ?_
  refine lv_iconst (v := (0 : Int32)) C.1 C.2.1 dX15_leave_5 (by decide) ?_
  obtain ⟨g_2, hE⟩ := gd_e hE
  obtain ⟨h_3, eh_3, hE⟩ := nm_e2 hE
  refine y_iast C hW hZ k_r_1 g_2 eh_3 dX15_leave_6 (fun _ _ hW km hZ => ?_)
  replace hkm := hkm.tr km
  replace k_x0 := km.at k_x0 (by decide)
  replace k_x1 := km.at k_x1 (by decide)
  refine lv_aload_n C.1 C.2.1 dX15_leave_7 rfl (lv_at hl 1 rfl) ?_
  refine lv_dup C.1 C.2.1 dX15_leave_8 rfl ?_
  refine gf_X15_436 C hW k_x1 dX15_leave_9 ?_
  refine lv_lconst (v := (1 : Int64)) C.1 C.2.1 dX15_leave_12 (by decide) ?_
  refine lv_iload_n C.1 C.2.1 dX15_leave_13 rfl (lv_at hl 2 rfl) ?_
  refine lv_lshl C.1 C.2.1 dX15_leave_14 rfl ?_
  refine lv_ldc2 (v := (-1 : Int64)) C.1 C.2.1 C.2.2.2.1 (C.2.2.2.2.1 _ m_2479) dX15_leave_15 ?_
  refine lv_lxor C.1 C.2.1 dX15_leave_18 ?_
  refine lv_land C.1 C.2.1 dX15_leave_19 ?_
  obtain ⟨h_4, eh_4, hE⟩ := nm_e2 hE
  refine pf_X15_436 C hW hZ k_x1 eh_4 dX15_leave_20 (fun _ _ hW km hZ => ?_)
  replace hkm := hkm.tr km
  replace k_x0 := km.at k_x0 (by decide)
  replace k_x1 := km.at k_x1 (by decide)
  exact x_vret C rfl hW hZ hkm hE dX15_leave_23
theorem dX15_come_0 : decode cX15_come 0 = .ok (.aload_n 1, 1) := by decide +kernel
theorem dX15_come_1 : decode cX15_come 1 = .ok (.getfield 396, 3) := by decide +kernel
theorem dX15_come_4 : decode cX15_come 4 = .ok (.iload_n 2, 1) := by decide +kernel
theorem dX15_come_5 : decode cX15_come 5 = .ok (.iload_n 3, 1) := by decide +kernel
theorem dX15_come_6 : decode cX15_come 6 = .ok (.iastore, 1) := by decide +kernel
theorem dX15_come_7 : decode cX15_come 7 = .ok (.aload_n 1, 1) := by decide +kernel
theorem dX15_come_8 : decode cX15_come 8 = .ok (.dup, 1) := by decide +kernel
theorem dX15_come_9 : decode cX15_come 9 = .ok (.getfield 436, 3) := by decide +kernel
theorem dX15_come_12 : decode cX15_come 12 = .ok (.lconst 1, 1) := by decide +kernel
theorem dX15_come_13 : decode cX15_come 13 = .ok (.iload_n 2, 1) := by decide +kernel
theorem dX15_come_14 : decode cX15_come 14 = .ok (.lshl, 1) := by decide +kernel
theorem dX15_come_15 : decode cX15_come 15 = .ok (.ldc2_w 533, 3) := by decide +kernel
theorem dX15_come_18 : decode cX15_come 18 = .ok (.lxor, 1) := by decide +kernel
theorem dX15_come_19 : decode cX15_come 19 = .ok (.land, 1) := by decide +kernel
theorem dX15_come_20 : decode cX15_come 20 = .ok (.putfield 436, 3) := by decide +kernel
theorem dX15_come_23 : decode cX15_come 23 = .ok (.return_, 1) := by decide +kernel
set_option maxRecDepth 20000 in
theorem moX15_come {o : Hp} {h : Hp} {x0 : Nat} {x1 : Nat} {x2 : Int32} {x3 : Int32} (hE : sX15_come h x0 x1 x2 x3 = some o) : Le h o := by
  obtain ⟨r_1, er_1, hE⟩ := cl_e hE
  obtain ⟨g_2, hE⟩ := gd_e hE
  obtain ⟨h_3, eh_3, hE⟩ := nm_e2 hE
  refine (le_I eh_3).tr ?_
  obtain ⟨h_4, eh_4, hE⟩ := nm_e2 hE
  refine (le_J eh_4).tr ?_
  exact le_some1 hE
set_option maxRecDepth 20000 in
theorem ct_X15_come (l : Launch) (X : Ec) {h : Hp} {x0 : Nat} {x1 : Nat} {x2 : Int32} {x3 : Int32} {o : Hp} (k_x0 : hK h x0 = 15) (k_x1 : hK h x1 = 12) (hE : sX15_come h x0 x1 x2 x3 = some o) : MetV l yX15_come cX15_come 4 none 0 0 X [.ref x0, .ref x1, .int x2, .int x3] h o := by
  refine x_met (by decide) (Nat.le_of_ble_eq_true rfl) ?_
  intro p e s m below meth c ls C hl hW hZ
  have hl : lv_has ls 4 [(0, .ref x0), (1, .ref x1), (2, .int x2), (3, .int x3)] := hl
  have hkm : Km h h := Km.rf h
  refine lv_aload_n C.1 C.2.1 dX15_come_0 rfl (lv_at hl 1 rfl) ?_
  obtain ⟨r_1, er_1, hE⟩ := cl_e hE
  refine gf_X15_396 C hW k_x1 er_1 dX15_come_1 (fun k_r_1 => ?_)
  refine lv_iload_n C.1 C.2.1 dX15_come_4 rfl (lv_at hl 2 rfl) ?_
  refine lv_iload_n C.1 C.2.1 dX15_come_5 rfl (lv_at hl 3 rfl) ?_
  obtain ⟨g_2, hE⟩ := gd_e hE
  obtain ⟨h_3, eh_3, hE⟩ := nm_e2 hE
  refine y_iast C hW hZ k_r_1 g_2 eh_3 dX15_come_6 (fun _ _ hW km hZ => ?_)
  replace hkm := hkm.tr km
  replace k_x0 := km.at k_x0 (by decide)
  replace k_x1 := km.at k_x1 (by decide)
  refine lv_aload_n C.1 C.2.1 dX15_come_7 rfl (lv_at hl 1 rfl) ?_
  refine lv_dup C.1 C.2.1 dX15_come_8 rfl ?_
  refine gf_X15_436 C hW k_x1 dX15_come_9 ?_
  refine lv_lconst (v := (1 : Int64)) C.1 C.2.1 dX15_come_12 (by decide) ?_
  refine lv_iload_n C.1 C.2.1 dX15_come_13 rfl (lv_at hl 2 rfl) ?_
  refine lv_lshl C.1 C.2.1 dX15_come_14 rfl ?_
  refine lv_ldc2 (v := (-1 : Int64)) C.1 C.2.1 C.2.2.2.1 (C.2.2.2.2.1 _ m_2479) dX15_come_15 ?_
  refine lv_lxor C.1 C.2.1 dX15_come_18 ?_
  refine lv_land C.1 C.2.1 dX15_come_19 ?_
  obtain ⟨h_4, eh_4, hE⟩ := nm_e2 hE
  refine pf_X15_436 C hW hZ k_x1 eh_4 dX15_come_20 (fun _ _ hW km hZ => ?_)
  replace hkm := hkm.tr km
  replace k_x0 := km.at k_x0 (by decide)
  replace k_x1 := km.at k_x1 (by decide)
  exact x_vret C rfl hW hZ hkm hE dX15_come_23
set_option maxRecDepth 100000 in
theorem ms_181 : Cond.selects RX15 yX15_leave yX15_leave ∈ W0 := w0_in (List.mem_append_left _ (List.mem_of_getElem? (i := 181) rfl)) rfl
set_option maxRecDepth 100000 in
theorem m_2567 : Cond.methodLink RX15 608 yX15_leave ∈ W0 := w0_in (List.mem_append_right _ (List.mem_of_getElem? (i := 2567) rfl)) rfl
set_option maxRecDepth 100000 in
theorem m_2569 : Cond.instanceMethod yX15_leave ∈ W0 := w0_in (List.mem_append_right _ (List.mem_of_getElem? (i := 2569) rfl)) rfl
set_option maxRecDepth 100000 in
theorem m_2570 : Cond.code yX15_leave cX15_leave 3 none ∈ W0 := w0_in (List.mem_append_right _ (List.mem_of_getElem? (i := 2570) rfl)) rfl
theorem cw_X15_608 : cwd RX15 608 yX15_leave cX15_leave 3 none false 2 := ⟨m_2570, m_2567, m_19, ⟨m_2569, ms_181⟩, by decide, by decide, by decide +kernel⟩
theorem dX15_blast_0 : decode cX15_blast 0 = .ok (.aload_n 0, 1) := by decide +kernel
theorem dX15_blast_1 : decode cX15_blast 1 = .ok (.aload_n 1, 1) := by decide +kernel
theorem dX15_blast_2 : decode cX15_blast 2 = .ok (.iload_n 2, 1) := by decide +kernel
theorem dX15_blast_3 : decode cX15_blast 3 = .ok (.invokevirtual 608, 3) := by decide +kernel
theorem dX15_blast_6 : decode cX15_blast 6 = .ok (.iconst 0, 1) := by decide +kernel
theorem dX15_blast_7 : decode cX15_blast 7 = .ok (.istore_n 3, 1) := by decide +kernel
theorem dX15_blast_8 : decode cX15_blast 8 = .ok (.iload_n 3, 1) := by decide +kernel
theorem dX15_blast_9 : decode cX15_blast 9 = .ok (.aload_n 0, 1) := by decide +kernel
theorem dX15_blast_10 : decode cX15_blast 10 = .ok (.getfield 384, 3) := by decide +kernel
theorem dX15_blast_13 : decode cX15_blast 13 = .ok (.if_icmp .ge 98, 3) := by decide +kernel
theorem dX15_blast_16 : decode cX15_blast 16 = .ok (.iload_n 3, 1) := by decide +kernel
theorem dX15_blast_17 : decode cX15_blast 17 = .ok (.aload_n 0, 1) := by decide +kernel
theorem dX15_blast_18 : decode cX15_blast 18 = .ok (.getfield 382, 3) := by decide +kernel
theorem dX15_blast_21 : decode cX15_blast 21 = .ok (.irem, 1) := by decide +kernel
theorem dX15_blast_22 : decode cX15_blast 22 = .ok (.iload_n 2, 1) := by decide +kernel
theorem dX15_blast_23 : decode cX15_blast 23 = .ok (.aload_n 0, 1) := by decide +kernel
theorem dX15_blast_24 : decode cX15_blast 24 = .ok (.getfield 382, 3) := by decide +kernel
theorem dX15_blast_27 : decode cX15_blast 27 = .ok (.irem, 1) := by decide +kernel
theorem dX15_blast_28 : decode cX15_blast 28 = .ok (.isub, 1) := by decide +kernel
theorem dX15_blast_29 : decode cX15_blast 29 = .ok (.invokestatic 551, 3) := by decide +kernel
theorem dX15_blast_32 : decode cX15_blast 32 = .ok (.iconst 2, 1) := by decide +kernel
theorem dX15_blast_33 : decode cX15_blast 33 = .ok (.if_icmp .ge 27, 3) := by decide +kernel
theorem dX15_blast_36 : decode cX15_blast 36 = .ok (.iload_n 3, 1) := by decide +kernel
theorem dX15_blast_37 : decode cX15_blast 37 = .ok (.aload_n 0, 1) := by decide +kernel
theorem dX15_blast_38 : decode cX15_blast 38 = .ok (.getfield 382, 3) := by decide +kernel
theorem dX15_blast_41 : decode cX15_blast 41 = .ok (.idiv, 1) := by decide +kernel
theorem dX15_blast_42 : decode cX15_blast 42 = .ok (.iload_n 2, 1) := by decide +kernel
theorem dX15_blast_43 : decode cX15_blast 43 = .ok (.aload_n 0, 1) := by decide +kernel
theorem dX15_blast_44 : decode cX15_blast 44 = .ok (.getfield 382, 3) := by decide +kernel
theorem dX15_blast_47 : decode cX15_blast 47 = .ok (.idiv, 1) := by decide +kernel
theorem dX15_blast_48 : decode cX15_blast 48 = .ok (.isub, 1) := by decide +kernel
theorem dX15_blast_49 : decode cX15_blast 49 = .ok (.invokestatic 551, 3) := by decide +kernel
theorem dX15_blast_52 : decode cX15_blast 52 = .ok (.iconst 2, 1) := by decide +kernel
theorem dX15_blast_53 : decode cX15_blast 53 = .ok (.if_icmp .ge 7, 3) := by decide +kernel
theorem dX15_blast_56 : decode cX15_blast 56 = .ok (.iconst 1, 1) := by decide +kernel
theorem dX15_blast_57 : decode cX15_blast 57 = .ok (.goto 4, 3) := by decide +kernel
theorem dX15_blast_60 : decode cX15_blast 60 = .ok (.iconst 0, 1) := by decide +kernel
theorem dX15_blast_61 : decode cX15_blast 61 = .ok (.istore 4, 2) := by decide +kernel
theorem dX15_blast_63 : decode cX15_blast 63 = .ok (.iload 4, 2) := by decide +kernel
theorem dX15_blast_65 : decode cX15_blast 65 = .ok (.ifCond .eq 40, 3) := by decide +kernel
theorem dX15_blast_68 : decode cX15_blast 68 = .ok (.aload_n 1, 1) := by decide +kernel
theorem dX15_blast_69 : decode cX15_blast 69 = .ok (.getfield 396, 3) := by decide +kernel
theorem dX15_blast_72 : decode cX15_blast 72 = .ok (.iload_n 3, 1) := by decide +kernel
theorem dX15_blast_73 : decode cX15_blast 73 = .ok (.iaload, 1) := by decide +kernel
theorem dX15_blast_74 : decode cX15_blast 74 = .ok (.ifCond .le 31, 3) := by decide +kernel
theorem dX15_blast_77 : decode cX15_blast 77 = .ok (.aload_n 0, 1) := by decide +kernel
theorem dX15_blast_78 : decode cX15_blast 78 = .ok (.getfield 252, 3) := by decide +kernel
theorem dX15_blast_81 : decode cX15_blast 81 = .ok (.getfield 230, 3) := by decide +kernel
theorem dX15_blast_84 : decode cX15_blast 84 = .ok (.aload_n 1, 1) := by decide +kernel
theorem dX15_blast_85 : decode cX15_blast 85 = .ok (.getfield 396, 3) := by decide +kernel
theorem dX15_blast_88 : decode cX15_blast 88 = .ok (.iload_n 3, 1) := by decide +kernel
theorem dX15_blast_89 : decode cX15_blast 89 = .ok (.iaload, 1) := by decide +kernel
theorem dX15_blast_90 : decode cX15_blast 90 = .ok (.invokestatic 492, 3) := by decide +kernel
theorem dX15_blast_93 : decode cX15_blast 93 = .ok (.ishr, 1) := by decide +kernel
theorem dX15_blast_94 : decode cX15_blast 94 = .ok (.iconst 1, 1) := by decide +kernel
theorem dX15_blast_95 : decode cX15_blast 95 = .ok (.iand, 1) := by decide +kernel
theorem dX15_blast_96 : decode cX15_blast 96 = .ok (.ifCond .ne 9, 3) := by decide +kernel
theorem dX15_blast_99 : decode cX15_blast 99 = .ok (.aload_n 0, 1) := by decide +kernel
theorem dX15_blast_100 : decode cX15_blast 100 = .ok (.aload_n 1, 1) := by decide +kernel
theorem dX15_blast_101 : decode cX15_blast 101 = .ok (.iload_n 3, 1) := by decide +kernel
theorem dX15_blast_102 : decode cX15_blast 102 = .ok (.invokevirtual 608, 3) := by decide +kernel
theorem dX15_blast_105 : decode cX15_blast 105 = .ok (.iinc 3 1, 3) := by decide +kernel
theorem dX15_blast_108 : decode cX15_blast 108 = .ok (.goto (-100), 3) := by decide +kernel
theorem dX15_blast_111 : decode cX15_blast 111 = .ok (.return_, 1) := by decide +kernel
set_option maxRecDepth 20000 in
theorem moX15_blast_105 {o : Hp} {k_8 : Hp → Nat → Nat → Int32 → Int32 → Option (Hp)} {F : Nat} (mk_8 : ∀ (h : Hp) (x0 : Nat) (x1 : Nat) (x2 : Int32) (x3 : Int32), k_8 h x0 x1 x2 x3 = some o → Le h o) {h : Hp} {x0 : Nat} {x1 : Nat} {x2 : Int32} {x3 : Int32} (hE : sX15_blast_105 F k_8 h x0 x1 x2 x3 = some o) : Le h o := by
  obtain ⟨v_1, ev_1, hE⟩ := nm_e2 hE
  exact mk_8 _ _ _ _ _ hE
set_option maxRecDepth 20000 in
theorem moX15_blast_61 {o : Hp} {k_8 : Hp → Nat → Nat → Int32 → Int32 → Option (Hp)} {F : Nat} (mk_8 : ∀ (h : Hp) (x0 : Nat) (x1 : Nat) (x2 : Int32) (x3 : Int32), k_8 h x0 x1 x2 x3 = some o → Le h o) {h : Hp} {x0 : Nat} {x1 : Nat} {x2 : Int32} {x3 : Int32} {t0 : Int32} (hE : sX15_blast_61 F k_8 h x0 x1 x2 x3 t0 = some o) : Le h o := by
  rcases br_e hE with ⟨_, hE⟩ | ⟨_, hE⟩
  · exact moX15_blast_105 mk_8 hE
  · obtain ⟨r_2, er_2, hE⟩ := cl_e hE
    obtain ⟨g_3, hE⟩ := gd_e hE
    rcases br_e hE with ⟨_, hE⟩ | ⟨_, hE⟩
    · exact moX15_blast_105 mk_8 hE
    · obtain ⟨r_5, er_5, hE⟩ := cl_e hE
      obtain ⟨r_6, er_6, hE⟩ := cl_e hE
      obtain ⟨g_7, hE⟩ := gd_e hE
      obtain ⟨o_8, eo_8, hE⟩ := cl_e hE
      refine (moX15_manOf eo_8).tr ?_
      rcases br_e hE with ⟨_, hE⟩ | ⟨_, hE⟩
      · obtain ⟨o_10, eo_10, hE⟩ := cl_e hE
        refine (moX15_leave eo_10).tr ?_
        exact moX15_blast_105 mk_8 hE
      · exact moX15_blast_105 mk_8 hE
set_option maxRecDepth 20000 in
theorem moX15_blast_60 {o : Hp} {k_8 : Hp → Nat → Nat → Int32 → Int32 → Option (Hp)} {F : Nat} (mk_8 : ∀ (h : Hp) (x0 : Nat) (x1 : Nat) (x2 : Int32) (x3 : Int32), k_8 h x0 x1 x2 x3 = some o → Le h o) {h : Hp} {x0 : Nat} {x1 : Nat} {x2 : Int32} {x3 : Int32} (hE : sX15_blast_60 F k_8 h x0 x1 x2 x3 = some o) : Le h o := by
  exact moX15_blast_61 mk_8 hE
set_option maxRecDepth 20000 in
theorem moX15_blast_8 {o : Hp} {F : Nat} : ∀ (f : Nat) {h : Hp} {x0 : Nat} {x1 : Nat} {x2 : Int32} {x3 : Int32}, sX15_blast_8 F f h x0 x1 x2 x3 = some o → Le h o := by
  intro f
  induction f with
  | zero =>
    intro h x0 x1 x2 x3 hE
    rw [sX15_blast_8] at hE
    cases hE
  | succ f ih =>
    intro h x0 x1 x2 x3 hE
    rw [sX15_blast_8] at hE
    have mk_8 : ∀ (h : Hp) (x0 : Nat) (x1 : Nat) (x2 : Int32) (x3 : Int32), sX15_blast_8 F f h x0 x1 x2 x3 = some o → Le h o := fun h x0 x1 x2 x3 hE => ih hE
    rcases br_e hE with ⟨_, hE⟩ | ⟨_, hE⟩
    · exact le_some1 hE
    · obtain ⟨g_2, hE⟩ := gd_e hE
      obtain ⟨g_3, hE⟩ := gd_e hE
      rcases br_e hE with ⟨_, hE⟩ | ⟨_, hE⟩
      · exact moX15_blast_60 mk_8 hE
      · obtain ⟨g_5, hE⟩ := gd_e hE
        obtain ⟨g_6, hE⟩ := gd_e hE
        rcases br_e hE with ⟨_, hE⟩ | ⟨_, hE⟩
        · exact moX15_blast_60 mk_8 hE
        · exact moX15_blast_61 mk_8 hE
set_option maxRecDepth 20000 in
theorem moX15_blast {o : Hp} {F : Nat} {h : Hp} {x0 : Nat} {x1 : Nat} {x2 : Int32} (hE : sX15_blast F h x0 x1 x2 = some o) : Le h o := by
  obtain ⟨o_1, eo_1, hE⟩ := cl_e hE
  refine (moX15_leave eo_1).tr ?_
  exact moX15_blast_8 _ hE
set_option maxRecDepth 20000 in
theorem bX15_blast_105 {p : Program} {l : Launch} {e : Env} {s : State} {m : MethodId} {args : Array Value} {below : List Frame} {meth : Method} {c : Code} {X : Ec} {h0 : Hp} {o : Hp} {k_8 : Hp → Nat → Nat → Int32 → Int32 → Option (Hp)} {F : Nat} (C : Cx X p s m args meth c RX15 cX15_blast 5 none "blast") (hk_8 : ∀ (h : Hp) (x0 : Nat) (x1 : Nat) (x2 : Int32) (x3 : Int32) (H : Heap) (locs : List Loc), hK h x0 = 15 → hK h x1 = 12 → Km h0 h → Wx X h H → va_S (aA (eB X)) s.heap H locs → ∀ (ls : Array Slot), lv_has ls 5 [(0, .ref x0), (1, .ref x1), (2, .int x2), (3, .int x3)] → k_8 h x0 x1 x2 x3 = some o → W p l e (rm 1 24) s m args below meth c H locs 0 0 (MQ below (QV X h0 o) args s 0 0 (aA (eB X))) (F0 m 8 ls [])) {h : Hp} {x0 : Nat} {x1 : Nat} {x2 : Int32} {x3 : Int32} {H : Heap} {locs : List Loc} (k_x0 : hK h x0 = 15) (k_x1 : hK h x1 = 12) (hkm : Km h0 h) (hW : Wx X h H) (hZ : va_S (aA (eB X)) s.heap H locs) (ls : Array Slot) (hl : lv_has ls 5 [(0, .ref x0), (1, .ref x1), (2, .int x2), (3, .int x3)]) (hE : sX15_blast_105 F k_8 h x0 x1 x2 x3 = some o) : W p l e (rm 1 24) s m args below meth c H locs 0 0 (MQ below (QV X h0 o) args s 0 0 (aA (eB X))) (F0 m 105 ls []) := by
  obtain ⟨v_1, ev_1, hE⟩ := nm_e2 hE
  refine lv_iinc (v := v_1) (lv' := [(3, .int v_1), (0, .ref x0), (1, .ref x1), (2, .int x2)]) C.1 C.2.1 dX15_blast_105 hl (k := 3) rfl (by rw [ev_1]; rfl) (by decide) rfl (fun ls hl => ?_)
  refine lv_goto (tgt := 8) C.1 C.2.1 dX15_blast_108 (by decide) ?_
  exact hk_8 _ _ _ _ _ _ _ k_x0 k_x1 hkm hW hZ _ (lv_sub hl [1, 2, 3, 0] rfl) hE
set_option maxRecDepth 20000 in
theorem bX15_blast_61 {p : Program} {l : Launch} {e : Env} {s : State} {m : MethodId} {args : Array Value} {below : List Frame} {meth : Method} {c : Code} {X : Ec} {h0 : Hp} {o : Hp} {k_8 : Hp → Nat → Nat → Int32 → Int32 → Option (Hp)} {F : Nat} (C : Cx X p s m args meth c RX15 cX15_blast 5 none "blast") (hk_8 : ∀ (h : Hp) (x0 : Nat) (x1 : Nat) (x2 : Int32) (x3 : Int32) (H : Heap) (locs : List Loc), hK h x0 = 15 → hK h x1 = 12 → Km h0 h → Wx X h H → va_S (aA (eB X)) s.heap H locs → ∀ (ls : Array Slot), lv_has ls 5 [(0, .ref x0), (1, .ref x1), (2, .int x2), (3, .int x3)] → k_8 h x0 x1 x2 x3 = some o → W p l e (rm 1 24) s m args below meth c H locs 0 0 (MQ below (QV X h0 o) args s 0 0 (aA (eB X))) (F0 m 8 ls [])) {h : Hp} {x0 : Nat} {x1 : Nat} {x2 : Int32} {x3 : Int32} {t0 : Int32} {H : Heap} {locs : List Loc} (k_x0 : hK h x0 = 15) (k_x1 : hK h x1 = 12) (hkm : Km h0 h) (hW : Wx X h H) (hZ : va_S (aA (eB X)) s.heap H locs) (ls : Array Slot) (hl : lv_has ls 5 [(0, .ref x0), (1, .ref x1), (2, .int x2), (3, .int x3)]) (hE : sX15_blast_61 F k_8 h x0 x1 x2 x3 t0 = some o) : W p l e (rm 1 24) s m args below meth c H locs 0 0 (MQ below (QV X h0 o) args s 0 0 (aA (eB X))) (F0 m 61 ls [.int t0]) := by
  refine lv_istore (lv' := [(4, .int t0), (0, .ref x0), (1, .ref x1), (2, .int x2), (3, .int x3)]) C.1 C.2.1 dX15_blast_61 hl (by decide) rfl (fun ls hl => ?_)
  refine lv_iload C.1 C.2.1 dX15_blast_63 (lv_at hl 0 rfl) ?_
  refine lv_if_eq (tgt := 105) C.1 C.2.1 dX15_blast_65 (by decide) (fun c_1 => ?_) (fun c_1 => ?_)
  · have hE := br_p hE c_1
    exact bX15_blast_105 C hk_8 k_x0 k_x1 hkm hW hZ _ (lv_sub hl [1, 2, 3, 4] rfl) hE
  · have hE := br_n hE c_1
    refine lv_aload_n C.1 C.2.1 dX15_blast_68 rfl (lv_at hl 2 rfl) ?_
    obtain ⟨r_2, er_2, hE⟩ := cl_e hE
    refine gf_X15_396 C hW k_x1 er_2 dX15_blast_69 (fun k_r_2 => ?_)
    refine lv_iload_n C.1 C.2.1 dX15_blast_72 rfl (lv_at hl 4 rfl) ?_
    obtain ⟨g_3, hE⟩ := gd_e hE
    refine y_iald C hW k_r_2 g_3 dX15_blast_73 ?_
    refine lv_if_le (tgt := 105) C.1 C.2.1 dX15_blast_74 (by decide) (fun c_4 => ?_) (fun c_4 => ?_)
    · have hE := br_p hE c_4
      exact bX15_blast_105 C hk_8 k_x0 k_x1 hkm hW hZ _ (lv_sub hl [1, 2, 3, 4] rfl) hE
    · have hE := br_n hE c_4
      refine lv_aload_n C.1 C.2.1 dX15_blast_77 rfl (lv_at hl 1 rfl) ?_
      obtain ⟨r_5, er_5, hE⟩ := cl_e hE
      refine gf_X15_252 C hW k_x0 er_5 dX15_blast_78 (fun k_r_5 => ?_)
      refine gf_X15_230 C hW k_r_5 dX15_blast_81 ?_
      refine lv_aload_n C.1 C.2.1 dX15_blast_84 rfl (lv_at hl 2 rfl) ?_
      obtain ⟨r_6, er_6, hE⟩ := cl_e hE
      refine gf_X15_396 C hW k_x1 er_6 dX15_blast_85 (fun k_r_6 => ?_)
      refine lv_iload_n C.1 C.2.1 dX15_blast_88 rfl (lv_at hl 4 rfl) ?_
      obtain ⟨g_7, hE⟩ := gd_e hE
      refine y_iald C hW k_r_6 g_7 dX15_blast_89 ?_
      obtain ⟨o_8, eo_8, hE⟩ := cl_e hE
      refine x_kI (o := o_8) (z_runS (As := [.int (hI h r_6 x3.toNatClampNeg)]) (rest := [.int (hI h r_5 19)]) C (ct_X15_manOf l X eo_8) cw_X15_492 hW hZ rfl hl.1 (Nat.le_of_ble_eq_true rfl) rfl dX15_blast_90 ⟨Nat.le_of_ble_eq_true rfl, Nat.le_of_ble_eq_true rfl⟩ ⟨Nat.le_refl _, Nat.le_refl _⟩) hZ (fun _ _ hW km hZ => ?_)
      replace hkm := hkm.tr km
      replace k_x0 := km.at k_x0 (by decide)
      replace k_x1 := km.at k_x1 (by decide)
      refine lv_ishr C.1 C.2.1 dX15_blast_93 ?_
      refine lv_iconst (v := (1 : Int32)) C.1 C.2.1 dX15_blast_94 (by decide) ?_
      refine lv_iand C.1 C.2.1 dX15_blast_95 ?_
      refine lv_if_ne (tgt := 105) C.1 C.2.1 dX15_blast_96 (by decide) (fun c_9 => ?_) (fun c_9 => ?_)
      · have hE := br_n hE c_9
        exact bX15_blast_105 C hk_8 k_x0 k_x1 hkm hW hZ _ (lv_sub hl [1, 2, 3, 4] rfl) hE
      · have hE := br_p hE c_9
        refine lv_aload_n C.1 C.2.1 dX15_blast_99 rfl (lv_at hl 1 rfl) ?_
        refine lv_aload_n C.1 C.2.1 dX15_blast_100 rfl (lv_at hl 2 rfl) ?_
        refine lv_iload_n C.1 C.2.1 dX15_blast_101 rfl (lv_at hl 4 rfl) ?_
        obtain ⟨o_10, eo_10, hE⟩ := cl_e hE
        refine x_kV (o := o_10) (z_runV (As := [.ref x1, .int x3]) (rest := []) C (ct_X15_leave l X k_x0 k_x1 eo_10) cw_X15_608 hW hZ k_x0 (by decide) rfl rfl rfl hl.1 (Nat.le_of_ble_eq_true rfl) rfl dX15_blast_102 ⟨Nat.le_of_ble_eq_true rfl, Nat.le_of_ble_eq_true rfl⟩ ⟨Nat.le_refl _, Nat.le_refl _⟩) hZ (fun _ _ hW km hZ => ?_)
        replace hkm := hkm.tr km
        replace k_x0 := km.at k_x0 (by decide)
        replace k_x1 := km.at k_x1 (by decide)
        exact bX15_blast_105 C hk_8 k_x0 k_x1 hkm hW hZ _ (lv_sub hl [1, 2, 3, 4] rfl) hE
set_option maxRecDepth 20000 in
theorem bX15_blast_60 {p : Program} {l : Launch} {e : Env} {s : State} {m : MethodId} {args : Array Value} {below : List Frame} {meth : Method} {c : Code} {X : Ec} {h0 : Hp} {o : Hp} {k_8 : Hp → Nat → Nat → Int32 → Int32 → Option (Hp)} {F : Nat} (C : Cx X p s m args meth c RX15 cX15_blast 5 none "blast") (hk_8 : ∀ (h : Hp) (x0 : Nat) (x1 : Nat) (x2 : Int32) (x3 : Int32) (H : Heap) (locs : List Loc), hK h x0 = 15 → hK h x1 = 12 → Km h0 h → Wx X h H → va_S (aA (eB X)) s.heap H locs → ∀ (ls : Array Slot), lv_has ls 5 [(0, .ref x0), (1, .ref x1), (2, .int x2), (3, .int x3)] → k_8 h x0 x1 x2 x3 = some o → W p l e (rm 1 24) s m args below meth c H locs 0 0 (MQ below (QV X h0 o) args s 0 0 (aA (eB X))) (F0 m 8 ls [])) {h : Hp} {x0 : Nat} {x1 : Nat} {x2 : Int32} {x3 : Int32} {H : Heap} {locs : List Loc} (k_x0 : hK h x0 = 15) (k_x1 : hK h x1 = 12) (hkm : Km h0 h) (hW : Wx X h H) (hZ : va_S (aA (eB X)) s.heap H locs) (ls : Array Slot) (hl : lv_has ls 5 [(0, .ref x0), (1, .ref x1), (2, .int x2), (3, .int x3)]) (hE : sX15_blast_60 F k_8 h x0 x1 x2 x3 = some o) : W p l e (rm 1 24) s m args below meth c H locs 0 0 (MQ below (QV X h0 o) args s 0 0 (aA (eB X))) (F0 m 60 ls []) := by
  refine lv_iconst (v := (0 : Int32)) C.1 C.2.1 dX15_blast_60 (by decide) ?_
  exact bX15_blast_61 C hk_8 k_x0 k_x1 hkm hW hZ _ (lv_sub hl [0, 1, 2, 3] rfl) hE
set_option maxRecDepth 20000 in
theorem bX15_blast_8 {p : Program} {l : Launch} {e : Env} {s : State} {m : MethodId} {args : Array Value} {below : List Frame} {meth : Method} {c : Code} {X : Ec} {h0 : Hp} {o : Hp} {F : Nat} (C : Cx X p s m args meth c RX15 cX15_blast 5 none "blast") : ∀ (f : Nat) {h : Hp} {x0 : Nat} {x1 : Nat} {x2 : Int32} {x3 : Int32} {H : Heap} {locs : List Loc} (k_x0 : hK h x0 = 15) (k_x1 : hK h x1 = 12), Km h0 h → Wx X h H → va_S (aA (eB X)) s.heap H locs → ∀ (ls : Array Slot), lv_has ls 5 [(0, .ref x0), (1, .ref x1), (2, .int x2), (3, .int x3)] → sX15_blast_8 F f h x0 x1 x2 x3 = some o → W p l e (rm 1 24) s m args below meth c H locs 0 0 (MQ below (QV X h0 o) args s 0 0 (aA (eB X))) (F0 m 8 ls []) := by
  intro f
  induction f with
  | zero =>
    intro h x0 x1 x2 x3 H locs k_x0 k_x1 hkm hW hZ ls hl hE
    rw [sX15_blast_8] at hE
    cases hE
  | succ f ih =>
    intro h x0 x1 x2 x3 H locs k_x0 k_x1 hkm hW hZ ls hl hE
    rw [sX15_blast_8] at hE
    have hk_8 : ∀ (h : Hp) (x0 : Nat) (x1 : Nat) (x2 : Int32) (x3 : Int32) (H : Heap) (locs : List Loc), hK h x0 = 15 → hK h x1 = 12 → Km h0 h → Wx X h H → va_S (aA (eB X)) s.heap H locs → ∀ (ls : Array Slot), lv_has ls 5 [(0, .ref x0), (1, .ref x1), (2, .int x2), (3, .int x3)] → sX15_blast_8 F f h x0 x1 x2 x3 = some o → W p l e (rm 1 24) s m args below meth c H locs 0 0 (MQ below (QV X h0 o) args s 0 0 (aA (eB X))) (F0 m 8 ls []) := fun h x0 x1 x2 x3 H locs k_x0 k_x1 a b c ls hl hE => ih k_x0 k_x1 a b c ls hl hE
    refine lv_iload_n C.1 C.2.1 dX15_blast_8 rfl (lv_at hl 3 rfl) ?_
    refine lv_aload_n C.1 C.2.1 dX15_blast_9 rfl (lv_at hl 0 rfl) ?_
    refine gf_X15_384 C hW k_x0 dX15_blast_10 ?_
    refine lv_icmp_ge (tgt := 111) C.1 C.2.1 dX15_blast_13 (by decide) (fun c_1 => ?_) (fun c_1 => ?_)
    · have hE := br_p hE c_1
      exact x_vret C rfl hW hZ hkm hE dX15_blast_111
    · have hE := br_n hE c_1
      refine lv_iload_n C.1 C.2.1 dX15_blast_16 rfl (lv_at hl 3 rfl) ?_
      refine lv_aload_n C.1 C.2.1 dX15_blast_17 rfl (lv_at hl 0 rfl) ?_
      refine gf_X15_382 C hW k_x0 dX15_blast_18 ?_
      obtain ⟨g_2, hE⟩ := gd_e hE
      refine lv_irem C.1 C.2.1 dX15_blast_21 g_2 ?_
      refine lv_iload_n C.1 C.2.1 dX15_blast_22 rfl (lv_at hl 2 rfl) ?_
      refine lv_aload_n C.1 C.2.1 dX15_blast_23 rfl (lv_at hl 0 rfl) ?_
      refine gf_X15_382 C hW k_x0 dX15_blast_24 ?_
      obtain ⟨g_3, hE⟩ := gd_e hE
      refine lv_irem C.1 C.2.1 dX15_blast_27 g_3 ?_
      refine lv_isub C.1 C.2.1 dX15_blast_28 ?_
      refine va_mabs C.1 C.2.1 (C.2.2.1.trans hl.1.symm) C.2.2.2.1 (C.2.2.2.2.1 _ m_2426) (C.2.2.2.2.1 _ m_1213) (C.2.2.2.2.1 _ m_3) (C.2.2.2.2.1 _ m_1214) (Nat.le_of_ble_eq_true rfl) (Nat.le_of_ble_eq_true rfl) (Nat.le_refl _) (Nat.le_refl _) dX15_blast_29 ?_
      refine lv_iconst (v := (2 : Int32)) C.1 C.2.1 dX15_blast_32 (by decide) ?_
      refine lv_icmp_ge (tgt := 60) C.1 C.2.1 dX15_blast_33 (by decide) (fun c_4 => ?_) (fun c_4 => ?_)
      · have hE := br_p hE c_4
        exact bX15_blast_60 C hk_8 k_x0 k_x1 hkm hW hZ _ (lv_sub hl [0, 1, 2, 3] rfl) hE
      · have hE := br_n hE c_4
        refine lv_iload_n C.1 C.2.1 dX15_blast_36 rfl (lv_at hl 3 rfl) ?_
        refine lv_aload_n C.1 C.2.1 dX15_blast_37 rfl (lv_at hl 0 rfl) ?_
        refine gf_X15_382 C hW k_x0 dX15_blast_38 ?_
        obtain ⟨g_5, hE⟩ := gd_e hE
        refine lv_idiv C.1 C.2.1 dX15_blast_41 g_5 ?_
        refine lv_iload_n C.1 C.2.1 dX15_blast_42 rfl (lv_at hl 2 rfl) ?_
        refine lv_aload_n C.1 C.2.1 dX15_blast_43 rfl (lv_at hl 0 rfl) ?_
        refine gf_X15_382 C hW k_x0 dX15_blast_44 ?_
        obtain ⟨g_6, hE⟩ := gd_e hE
        refine lv_idiv C.1 C.2.1 dX15_blast_47 g_6 ?_
        refine lv_isub C.1 C.2.1 dX15_blast_48 ?_
        refine va_mabs C.1 C.2.1 (C.2.2.1.trans hl.1.symm) C.2.2.2.1 (C.2.2.2.2.1 _ m_2426) (C.2.2.2.2.1 _ m_1213) (C.2.2.2.2.1 _ m_3) (C.2.2.2.2.1 _ m_1214) (Nat.le_of_ble_eq_true rfl) (Nat.le_of_ble_eq_true rfl) (Nat.le_refl _) (Nat.le_refl _) dX15_blast_49 ?_
        refine lv_iconst (v := (2 : Int32)) C.1 C.2.1 dX15_blast_52 (by decide) ?_
        refine lv_icmp_ge (tgt := 60) C.1 C.2.1 dX15_blast_53 (by decide) (fun c_7 => ?_) (fun c_7 => ?_)
        · have hE := br_p hE c_7
          exact bX15_blast_60 C hk_8 k_x0 k_x1 hkm hW hZ _ (lv_sub hl [0, 1, 2, 3] rfl) hE
        · have hE := br_n hE c_7
          refine lv_iconst (v := (1 : Int32)) C.1 C.2.1 dX15_blast_56 (by decide) ?_
          refine lv_goto (tgt := 61) C.1 C.2.1 dX15_blast_57 (by decide) ?_
          exact bX15_blast_61 C hk_8 k_x0 k_x1 hkm hW hZ _ (lv_sub hl [0, 1, 2, 3] rfl) hE
set_option maxRecDepth 20000 in
theorem ct_X15_blast (l : Launch) (X : Ec) (F : Nat) {h : Hp} {x0 : Nat} {x1 : Nat} {x2 : Int32} {o : Hp} (k_x0 : hK h x0 = 15) (k_x1 : hK h x1 = 12) (hE : sX15_blast F h x0 x1 x2 = some o) : MetV l yX15_blast cX15_blast 5 none 1 24 X [.ref x0, .ref x1, .int x2] h o := by
  refine x_met (by decide) (Nat.le_of_ble_eq_true rfl) ?_
  intro p e s m below meth c ls C hl hW hZ
  have hl : lv_has ls 5 [(0, .ref x0), (1, .ref x1), (2, .int x2)] := hl
  have hkm : Km h h := Km.rf h
  refine lv_aload_n C.1 C.2.1 dX15_blast_0 rfl (lv_at hl 0 rfl) ?_
  refine lv_aload_n C.1 C.2.1 dX15_blast_1 rfl (lv_at hl 1 rfl) ?_
  refine lv_iload_n C.1 C.2.1 dX15_blast_2 rfl (lv_at hl 2 rfl) ?_
  obtain ⟨o_1, eo_1, hE⟩ := cl_e hE
  refine x_kV (o := o_1) (z_runV (As := [.ref x1, .int x2]) (rest := []) C (ct_X15_leave l X k_x0 k_x1 eo_1) cw_X15_608 hW hZ k_x0 (by decide) rfl rfl rfl hl.1 (Nat.le_of_ble_eq_true rfl) rfl dX15_blast_3 ⟨Nat.le_of_ble_eq_true rfl, Nat.le_of_ble_eq_true rfl⟩ ⟨Nat.le_refl _, Nat.le_refl _⟩) hZ (fun _ _ hW km hZ => ?_)
  replace hkm := hkm.tr km
  replace k_x0 := km.at k_x0 (by decide)
  replace k_x1 := km.at k_x1 (by decide)
  refine lv_iconst (v := (0 : Int32)) C.1 C.2.1 dX15_blast_6 (by decide) ?_
  refine lv_istore_n (lv' := [(3, .int (0 : Int32)), (0, .ref x0), (1, .ref x1), (2, .int x2)]) C.1 C.2.1 dX15_blast_7 rfl hl (by decide) rfl (fun ls hl => ?_)
  exact bX15_blast_8 C F k_x0 k_x1 hkm hW hZ _ (lv_sub hl [1, 2, 3, 0] rfl) hE
set_option maxRecDepth 100000 in
theorem ms_183 : Cond.selects RX15 yX15_blast yX15_blast ∈ W0 := w0_in (List.mem_append_left _ (List.mem_of_getElem? (i := 183) rfl)) rfl
set_option maxRecDepth 100000 in
theorem ms_182 : Cond.selects RX15 yX15_come yX15_come ∈ W0 := w0_in (List.mem_append_left _ (List.mem_of_getElem? (i := 182) rfl)) rfl
set_option maxRecDepth 100000 in
theorem m_1340 : Cond.static Lib.Math.min.name ∈ W0 := w0_in (List.mem_append_right _ (List.mem_of_getElem? (i := 1340) rfl)) rfl
set_option maxRecDepth 100000 in
theorem m_1341 : Cond.code Lib.Math.min.name Lib.Math.min.code 2 (some .int) ∈ W0 := w0_in (List.mem_append_right _ (List.mem_of_getElem? (i := 1341) rfl)) rfl
set_option maxRecDepth 100000 in
theorem n_1950 : Cond.fieldLinkNest RX15 597 (TX13 1).1 (TX13 1).2.1 (TX13 1).2.2.1 "GameRulesModel" ∈ tables_1 := List.mem_of_getElem? (i := 1950) rfl
set_option maxRecDepth 100000 in
theorem n_1952 : Cond.fieldLinkNest RX15 598 (TX13 2).1 (TX13 2).2.1 (TX13 2).2.2.1 "GameRulesModel" ∈ tables_1 := List.mem_of_getElem? (i := 1952) rfl
set_option maxRecDepth 100000 in
theorem n_1954 : Cond.fieldLinkNest RX15 600 (TX13 3).1 (TX13 3).2.1 (TX13 3).2.2.1 "GameRulesModel" ∈ tables_1 := List.mem_of_getElem? (i := 1954) rfl
set_option maxRecDepth 100000 in
theorem n_1956 : Cond.fieldLinkNest RX15 612 (TX13 4).1 (TX13 4).2.1 (TX13 4).2.2.1 "GameRulesModel" ∈ tables_1 := List.mem_of_getElem? (i := 1956) rfl
set_option maxRecDepth 100000 in
theorem n_1958 : Cond.fieldLinkNest RX15 605 (TX13 5).1 (TX13 5).2.1 (TX13 5).2.2.1 "GameRulesModel" ∈ tables_1 := List.mem_of_getElem? (i := 1958) rfl
set_option maxRecDepth 100000 in
theorem n_1960 : Cond.fieldLinkNest RX15 602 (TX13 6).1 (TX13 6).2.1 (TX13 6).2.2.1 "GameRulesModel" ∈ tables_1 := List.mem_of_getElem? (i := 1960) rfl
set_option maxRecDepth 100000 in
theorem n_1962 : Cond.fieldLinkNest RX15 619 (TX13 7).1 (TX13 7).2.1 (TX13 7).2.2.1 "GameRulesModel" ∈ tables_1 := List.mem_of_getElem? (i := 1962) rfl
set_option maxRecDepth 100000 in
theorem m_2571 : Cond.methodLink RX15 615 yX15_come ∈ W0 := w0_in (List.mem_append_right _ (List.mem_of_getElem? (i := 2571) rfl)) rfl
set_option maxRecDepth 100000 in
theorem m_2573 : Cond.instanceMethod yX15_come ∈ W0 := w0_in (List.mem_append_right _ (List.mem_of_getElem? (i := 2573) rfl)) rfl
set_option maxRecDepth 100000 in
theorem m_2574 : Cond.code yX15_come cX15_come 4 none ∈ W0 := w0_in (List.mem_append_right _ (List.mem_of_getElem? (i := 2574) rfl)) rfl
set_option maxRecDepth 100000 in
theorem m_2575 : Cond.methodLink RX15 622 yX15_blast ∈ W0 := w0_in (List.mem_append_right _ (List.mem_of_getElem? (i := 2575) rfl)) rfl
set_option maxRecDepth 100000 in
theorem m_2577 : Cond.instanceMethod yX15_blast ∈ W0 := w0_in (List.mem_append_right _ (List.mem_of_getElem? (i := 2577) rfl)) rfl
set_option maxRecDepth 100000 in
theorem m_2578 : Cond.code yX15_blast cX15_blast 5 none ∈ W0 := w0_in (List.mem_append_right _ (List.mem_of_getElem? (i := 2578) rfl)) rfl
set_option maxRecDepth 100000 in
theorem m_2579 : Cond.methodLink RX15 624 Lib.Math.min.name ∈ W0 := w0_in (List.mem_append_right _ (List.mem_of_getElem? (i := 2579) rfl)) rfl
section
variable {p : Program} {l : Launch} {e : Env} {R : Room} {s : State} {m : MethodId} {args : Array Value} {below : List Frame} {meth : Method} {c : Code} {H : Heap} {locs : List Loc} {cells slots : Nat} {Q : State → Prop}
variable {cc : ByteArray} {pc : Nat} {ls : Array Slot} {rest : List Value} {X : Ec} {h h1 : Hp} {nL : Nat} {rt : Option FieldType} {mn : String}
theorem gf_X15_602 {a r : Nat} (C : Cx X p s m args meth c RX15 cc nL rt mn) (hW : Wx X h H) (ha : hK h a = 13) (hr : hR h a 6 = some r) (hdg : decode cc pc = .ok (.getfield 602, 3)) (kk : hK h r = 17 → W p l e R s m args below meth c H locs cells slots Q (F0 m (pc + 3) ls (.ref r :: rest))) : W p l e R s m args below meth c H locs cells slots Q (F0 m pc ls (.ref a :: rest)) :=
  y_getrN C hW ha i_X13 (by decide) rfl (by decide) n_1960 rfl rfl hr hdg kk
theorem gf_X15_619 {a r : Nat} (C : Cx X p s m args meth c RX15 cc nL rt mn) (hW : Wx X h H) (ha : hK h a = 13) (hr : hR h a 7 = some r) (hdg : decode cc pc = .ok (.getfield 619, 3)) (kk : hK h r = 17 → W p l e R s m args below meth c H locs cells slots Q (F0 m (pc + 3) ls (.ref r :: rest))) : W p l e R s m args below meth c H locs cells slots Q (F0 m pc ls (.ref a :: rest)) :=
  y_getrN C hW ha i_X13 (by decide) rfl (by decide) n_1962 rfl rfl hr hdg kk
theorem gf_X15_612 {a r : Nat} (C : Cx X p s m args meth c RX15 cc nL rt mn) (hW : Wx X h H) (ha : hK h a = 13) (hr : hR h a 4 = some r) (hdg : decode cc pc = .ok (.getfield 612, 3)) (kk : hK h r = 17 → W p l e R s m args below meth c H locs cells slots Q (F0 m (pc + 3) ls (.ref r :: rest))) : W p l e R s m args below meth c H locs cells slots Q (F0 m pc ls (.ref a :: rest)) :=
  y_getrN C hW ha i_X13 (by decide) rfl (by decide) n_1956 rfl rfl hr hdg kk
theorem gf_X15_605 {a r : Nat} (C : Cx X p s m args meth c RX15 cc nL rt mn) (hW : Wx X h H) (ha : hK h a = 13) (hr : hR h a 5 = some r) (hdg : decode cc pc = .ok (.getfield 605, 3)) (kk : hK h r = 17 → W p l e R s m args below meth c H locs cells slots Q (F0 m (pc + 3) ls (.ref r :: rest))) : W p l e R s m args below meth c H locs cells slots Q (F0 m pc ls (.ref a :: rest)) :=
  y_getrN C hW ha i_X13 (by decide) rfl (by decide) n_1958 rfl rfl hr hdg kk
theorem gf_X15_597 {a r : Nat} (C : Cx X p s m args meth c RX15 cc nL rt mn) (hW : Wx X h H) (ha : hK h a = 13) (hr : hR h a 1 = some r) (hdg : decode cc pc = .ok (.getfield 597, 3)) (kk : hK h r = 17 → W p l e R s m args below meth c H locs cells slots Q (F0 m (pc + 3) ls (.ref r :: rest))) : W p l e R s m args below meth c H locs cells slots Q (F0 m pc ls (.ref a :: rest)) :=
  y_getrN C hW ha i_X13 (by decide) rfl (by decide) n_1950 rfl rfl hr hdg kk
theorem gf_X15_598 {a r : Nat} (C : Cx X p s m args meth c RX15 cc nL rt mn) (hW : Wx X h H) (ha : hK h a = 13) (hr : hR h a 2 = some r) (hdg : decode cc pc = .ok (.getfield 598, 3)) (kk : hK h r = 17 → W p l e R s m args below meth c H locs cells slots Q (F0 m (pc + 3) ls (.ref r :: rest))) : W p l e R s m args below meth c H locs cells slots Q (F0 m pc ls (.ref a :: rest)) :=
  y_getrN C hW ha i_X13 (by decide) rfl (by decide) n_1952 rfl rfl hr hdg kk
theorem gf_X15_600 {a r : Nat} (C : Cx X p s m args meth c RX15 cc nL rt mn) (hW : Wx X h H) (ha : hK h a = 13) (hr : hR h a 3 = some r) (hdg : decode cc pc = .ok (.getfield 600, 3)) (kk : hK h r = 17 → W p l e R s m args below meth c H locs cells slots Q (F0 m (pc + 3) ls (.ref r :: rest))) : W p l e R s m args below meth c H locs cells slots Q (F0 m pc ls (.ref a :: rest)) :=
  y_getrN C hW ha i_X13 (by decide) rfl (by decide) n_1954 rfl rfl hr hdg kk
end
theorem cw_X15_622 : cwd RX15 622 yX15_blast cX15_blast 5 none false 2 := ⟨m_2578, m_2575, m_19, ⟨m_2577, ms_183⟩, by decide, by decide, by decide +kernel⟩
theorem cw_X15_615 : cwd RX15 615 yX15_come cX15_come 4 none false 3 := ⟨m_2574, m_2571, m_19, ⟨m_2573, ms_182⟩, by decide, by decide, by decide +kernel⟩
theorem dX15_make_0 : decode cX15_make 0 = .ok (.aload 4, 2) := by decide +kernel
theorem dX15_make_2 : decode cX15_make 2 = .ok (.aload_n 1, 1) := by decide +kernel
theorem dX15_make_3 : decode cX15_make 3 = .ok (.invokevirtual 405, 3) := by decide +kernel
theorem dX15_make_6 : decode cX15_make 6 = .ok (.aload_n 1, 1) := by decide +kernel
theorem dX15_make_7 : decode cX15_make 7 = .ok (.getfield 452, 3) := by decide +kernel
theorem dX15_make_10 : decode cX15_make 10 = .ok (.istore 5, 2) := by decide +kernel
theorem dX15_make_12 : decode cX15_make 12 = .ok (.aload_n 2, 1) := by decide +kernel
theorem dX15_make_13 : decode cX15_make 13 = .ok (.getfield 597, 3) := by decide +kernel
theorem dX15_make_16 : decode cX15_make 16 = .ok (.iload_n 3, 1) := by decide +kernel
theorem dX15_make_17 : decode cX15_make 17 = .ok (.iaload, 1) := by decide +kernel
theorem dX15_make_18 : decode cX15_make 18 = .ok (.istore 6, 2) := by decide +kernel
theorem dX15_make_20 : decode cX15_make 20 = .ok (.aload_n 2, 1) := by decide +kernel
theorem dX15_make_21 : decode cX15_make 21 = .ok (.getfield 598, 3) := by decide +kernel
theorem dX15_make_24 : decode cX15_make 24 = .ok (.iload_n 3, 1) := by decide +kernel
theorem dX15_make_25 : decode cX15_make 25 = .ok (.iaload, 1) := by decide +kernel
theorem dX15_make_26 : decode cX15_make 26 = .ok (.istore 7, 2) := by decide +kernel
theorem dX15_make_28 : decode cX15_make 28 = .ok (.aload_n 2, 1) := by decide +kernel
theorem dX15_make_29 : decode cX15_make 29 = .ok (.getfield 600, 3) := by decide +kernel
theorem dX15_make_32 : decode cX15_make 32 = .ok (.iload_n 3, 1) := by decide +kernel
theorem dX15_make_33 : decode cX15_make 33 = .ok (.iaload, 1) := by decide +kernel
theorem dX15_make_34 : decode cX15_make 34 = .ok (.istore 8, 2) := by decide +kernel
theorem dX15_make_36 : decode cX15_make 36 = .ok (.aload_n 2, 1) := by decide +kernel
theorem dX15_make_37 : decode cX15_make 37 = .ok (.getfield 602, 3) := by decide +kernel
theorem dX15_make_40 : decode cX15_make 40 = .ok (.iload_n 3, 1) := by decide +kernel
theorem dX15_make_41 : decode cX15_make 41 = .ok (.iaload, 1) := by decide +kernel
theorem dX15_make_42 : decode cX15_make 42 = .ok (.istore 9, 2) := by decide +kernel
theorem dX15_make_44 : decode cX15_make 44 = .ok (.aload 4, 2) := by decide +kernel
theorem dX15_make_46 : decode cX15_make 46 = .ok (.iconst 0, 1) := by decide +kernel
theorem dX15_make_47 : decode cX15_make 47 = .ok (.putfield 441, 3) := by decide +kernel
theorem dX15_make_50 : decode cX15_make 50 = .ok (.aload_n 2, 1) := by decide +kernel
theorem dX15_make_51 : decode cX15_make 51 = .ok (.getfield 605, 3) := by decide +kernel
theorem dX15_make_54 : decode cX15_make 54 = .ok (.iload_n 3, 1) := by decide +kernel
theorem dX15_make_55 : decode cX15_make 55 = .ok (.iaload, 1) := by decide +kernel
theorem dX15_make_56 : decode cX15_make 56 = .ok (.iconst (-1), 1) := by decide +kernel
theorem dX15_make_57 : decode cX15_make 57 = .ok (.if_icmp .eq 7, 3) := by decide +kernel
theorem dX15_make_60 : decode cX15_make 60 = .ok (.iconst 1, 1) := by decide +kernel
theorem dX15_make_61 : decode cX15_make 61 = .ok (.goto 4, 3) := by decide +kernel
theorem dX15_make_64 : decode cX15_make 64 = .ok (.iconst 0, 1) := by decide +kernel
theorem dX15_make_65 : decode cX15_make 65 = .ok (.istore 10, 2) := by decide +kernel
theorem dX15_make_67 : decode cX15_make 67 = .ok (.iload 10, 2) := by decide +kernel
theorem dX15_make_69 : decode cX15_make 69 = .ok (.ifCond .eq 90, 3) := by decide +kernel
theorem dX15_make_72 : decode cX15_make 72 = .ok (.aload_n 0, 1) := by decide +kernel
theorem dX15_make_73 : decode cX15_make 73 = .ok (.aload 4, 2) := by decide +kernel
theorem dX15_make_75 : decode cX15_make 75 = .ok (.iload 9, 2) := by decide +kernel
theorem dX15_make_77 : decode cX15_make 77 = .ok (.iconst 1, 1) := by decide +kernel
theorem dX15_make_78 : decode cX15_make 78 = .ok (.if_icmp .ne 12, 3) := by decide +kernel
theorem dX15_make_81 : decode cX15_make 81 = .ok (.aload_n 1, 1) := by decide +kernel
theorem dX15_make_82 : decode cX15_make 82 = .ok (.getfield 439, 3) := by decide +kernel
theorem dX15_make_85 : decode cX15_make 85 = .ok (.iconst 0, 1) := by decide +kernel
theorem dX15_make_86 : decode cX15_make 86 = .ok (.iaload, 1) := by decide +kernel
theorem dX15_make_87 : decode cX15_make 87 = .ok (.goto 5, 3) := by decide +kernel
theorem dX15_make_90 : decode cX15_make 90 = .ok (.iload 7, 2) := by decide +kernel
theorem dX15_make_92 : decode cX15_make 92 = .ok (.invokevirtual 608, 3) := by decide +kernel
theorem dX15_make_95 : decode cX15_make 95 = .ok (.iconst 2, 1) := by decide +kernel
theorem dX15_make_96 : decode cX15_make 96 = .ok (.aload_n 2, 1) := by decide +kernel
theorem dX15_make_97 : decode cX15_make 97 = .ok (.getfield 605, 3) := by decide +kernel
theorem dX15_make_100 : decode cX15_make 100 = .ok (.iload_n 3, 1) := by decide +kernel
theorem dX15_make_101 : decode cX15_make 101 = .ok (.iaload, 1) := by decide +kernel
theorem dX15_make_102 : decode cX15_make 102 = .ok (.imul, 1) := by decide +kernel
theorem dX15_make_103 : decode cX15_make 103 = .ok (.iload 5, 2) := by decide +kernel
theorem dX15_make_105 : decode cX15_make 105 = .ok (.iadd, 1) := by decide +kernel
theorem dX15_make_106 : decode cX15_make 106 = .ok (.istore 11, 2) := by decide +kernel
theorem dX15_make_108 : decode cX15_make 108 = .ok (.aload_n 0, 1) := by decide +kernel
theorem dX15_make_109 : decode cX15_make 109 = .ok (.getfield 252, 3) := by decide +kernel
theorem dX15_make_112 : decode cX15_make 112 = .ok (.getfield 126, 3) := by decide +kernel
theorem dX15_make_115 : decode cX15_make 115 = .ok (.ifCond .eq 44, 3) := by decide +kernel
theorem dX15_make_118 : decode cX15_make 118 = .ok (.aload_n 2, 1) := by decide +kernel
theorem dX15_make_119 : decode cX15_make 119 = .ok (.getfield 605, 3) := by decide +kernel
theorem dX15_make_122 : decode cX15_make 122 = .ok (.iload_n 3, 1) := by decide +kernel
theorem dX15_make_123 : decode cX15_make 123 = .ok (.iaload, 1) := by decide +kernel
theorem dX15_make_124 : decode cX15_make 124 = .ok (.aload_n 0, 1) := by decide +kernel
theorem dX15_make_125 : decode cX15_make 125 = .ok (.getfield 252, 3) := by decide +kernel
theorem dX15_make_128 : decode cX15_make 128 = .ok (.getfield 221, 3) := by decide +kernel
theorem dX15_make_131 : decode cX15_make 131 = .ok (.if_icmp .eq 28, 3) := by decide +kernel
theorem dX15_make_134 : decode cX15_make 134 = .ok (.aload 4, 2) := by decide +kernel
theorem dX15_make_136 : decode cX15_make 136 = .ok (.getfield 444, 3) := by decide +kernel
theorem dX15_make_139 : decode cX15_make 139 = .ok (.iload 11, 2) := by decide +kernel
theorem dX15_make_141 : decode cX15_make 141 = .ok (.iaload, 1) := by decide +kernel
theorem dX15_make_142 : decode cX15_make 142 = .ok (.bipush 16, 2) := by decide +kernel
theorem dX15_make_144 : decode cX15_make 144 = .ok (.if_icmp .ge 15, 3) := by decide +kernel
theorem dX15_make_147 : decode cX15_make 147 = .ok (.aload 4, 2) := by decide +kernel
theorem dX15_make_149 : decode cX15_make 149 = .ok (.getfield 444, 3) := by decide +kernel
theorem dX15_make_152 : decode cX15_make 152 = .ok (.iload 11, 2) := by decide +kernel
theorem dX15_make_154 : decode cX15_make 154 = .ok (.dup2, 1) := by decide +kernel
theorem dX15_make_155 : decode cX15_make 155 = .ok (.iaload, 1) := by decide +kernel
theorem dX15_make_156 : decode cX15_make 156 = .ok (.iconst 1, 1) := by decide +kernel
theorem dX15_make_157 : decode cX15_make 157 = .ok (.iadd, 1) := by decide +kernel
theorem dX15_make_158 : decode cX15_make 158 = .ok (.iastore, 1) := by decide +kernel
theorem dX15_make_159 : decode cX15_make 159 = .ok (.iload 9, 2) := by decide +kernel
theorem dX15_make_161 : decode cX15_make 161 = .ok (.iconst 3, 1) := by decide +kernel
theorem dX15_make_162 : decode cX15_make 162 = .ok (.if_icmp .ne 23, 3) := by decide +kernel
theorem dX15_make_165 : decode cX15_make 165 = .ok (.aload 4, 2) := by decide +kernel
theorem dX15_make_167 : decode cX15_make 167 = .ok (.getfield 444, 3) := by decide +kernel
theorem dX15_make_170 : decode cX15_make 170 = .ok (.iconst 2, 1) := by decide +kernel
theorem dX15_make_171 : decode cX15_make 171 = .ok (.iload 8, 2) := by decide +kernel
theorem dX15_make_173 : decode cX15_make 173 = .ok (.imul, 1) := by decide +kernel
theorem dX15_make_174 : decode cX15_make 174 = .ok (.iload 5, 2) := by decide +kernel
theorem dX15_make_176 : decode cX15_make 176 = .ok (.iadd, 1) := by decide +kernel
theorem dX15_make_177 : decode cX15_make 177 = .ok (.dup2, 1) := by decide +kernel
theorem dX15_make_178 : decode cX15_make 178 = .ok (.iaload, 1) := by decide +kernel
theorem dX15_make_179 : decode cX15_make 179 = .ok (.iconst 1, 1) := by decide +kernel
theorem dX15_make_180 : decode cX15_make 180 = .ok (.isub, 1) := by decide +kernel
theorem dX15_make_181 : decode cX15_make 181 = .ok (.iastore, 1) := by decide +kernel
theorem dX15_make_182 : decode cX15_make 182 = .ok (.goto 11, 3) := by decide +kernel
theorem dX15_make_185 : decode cX15_make 185 = .ok (.aload_n 0, 1) := by decide +kernel
theorem dX15_make_186 : decode cX15_make 186 = .ok (.aload 4, 2) := by decide +kernel
theorem dX15_make_188 : decode cX15_make 188 = .ok (.iload 6, 2) := by decide +kernel
theorem dX15_make_190 : decode cX15_make 190 = .ok (.invokevirtual 608, 3) := by decide +kernel
theorem dX15_make_193 : decode cX15_make 193 = .ok (.aload_n 0, 1) := by decide +kernel
theorem dX15_make_194 : decode cX15_make 194 = .ok (.aload 4, 2) := by decide +kernel
theorem dX15_make_196 : decode cX15_make 196 = .ok (.iload 7, 2) := by decide +kernel
theorem dX15_make_198 : decode cX15_make 198 = .ok (.aload_n 2, 1) := by decide +kernel
theorem dX15_make_199 : decode cX15_make 199 = .ok (.getfield 612, 3) := by decide +kernel
theorem dX15_make_202 : decode cX15_make 202 = .ok (.iload_n 3, 1) := by decide +kernel
theorem dX15_make_203 : decode cX15_make 203 = .ok (.iaload, 1) := by decide +kernel
theorem dX15_make_204 : decode cX15_make 204 = .ok (.iconst (-1), 1) := by decide +kernel
theorem dX15_make_205 : decode cX15_make 205 = .ok (.if_icmp .ne 8, 3) := by decide +kernel
theorem dX15_make_208 : decode cX15_make 208 = .ok (.iload 8, 2) := by decide +kernel
theorem dX15_make_210 : decode cX15_make 210 = .ok (.goto 9, 3) := by decide +kernel
theorem dX15_make_213 : decode cX15_make 213 = .ok (.aload_n 2, 1) := by decide +kernel
theorem dX15_make_214 : decode cX15_make 214 = .ok (.getfield 612, 3) := by decide +kernel
theorem dX15_make_217 : decode cX15_make 217 = .ok (.iload_n 3, 1) := by decide +kernel
theorem dX15_make_218 : decode cX15_make 218 = .ok (.iaload, 1) := by decide +kernel
theorem dX15_make_219 : decode cX15_make 219 = .ok (.iload 5, 2) := by decide +kernel
theorem dX15_make_221 : decode cX15_make 221 = .ok (.invokestatic 398, 3) := by decide +kernel
theorem dX15_make_224 : decode cX15_make 224 = .ok (.invokevirtual 615, 3) := by decide +kernel
theorem dX15_make_227 : decode cX15_make 227 = .ok (.iload 9, 2) := by decide +kernel
theorem dX15_make_229 : decode cX15_make 229 = .ok (.iconst 2, 1) := by decide +kernel
theorem dX15_make_230 : decode cX15_make 230 = .ok (.if_icmp .ne 43, 3) := by decide +kernel
theorem dX15_make_233 : decode cX15_make 233 = .ok (.aload_n 1, 1) := by decide +kernel
theorem dX15_make_234 : decode cX15_make 234 = .ok (.getfield 396, 3) := by decide +kernel
theorem dX15_make_237 : decode cX15_make 237 = .ok (.aload_n 2, 1) := by decide +kernel
theorem dX15_make_238 : decode cX15_make 238 = .ok (.getfield 619, 3) := by decide +kernel
theorem dX15_make_241 : decode cX15_make 241 = .ok (.iload_n 3, 1) := by decide +kernel
theorem dX15_make_242 : decode cX15_make 242 = .ok (.iaload, 1) := by decide +kernel
theorem dX15_make_243 : decode cX15_make 243 = .ok (.iaload, 1) := by decide +kernel
theorem dX15_make_244 : decode cX15_make 244 = .ok (.istore 11, 2) := by decide +kernel
theorem dX15_make_246 : decode cX15_make 246 = .ok (.aload_n 0, 1) := by decide +kernel
theorem dX15_make_247 : decode cX15_make 247 = .ok (.aload 4, 2) := by decide +kernel
theorem dX15_make_249 : decode cX15_make 249 = .ok (.aload_n 2, 1) := by decide +kernel
theorem dX15_make_250 : decode cX15_make 250 = .ok (.getfield 619, 3) := by decide +kernel
theorem dX15_make_253 : decode cX15_make 253 = .ok (.iload_n 3, 1) := by decide +kernel
theorem dX15_make_254 : decode cX15_make 254 = .ok (.iaload, 1) := by decide +kernel
theorem dX15_make_255 : decode cX15_make 255 = .ok (.invokevirtual 608, 3) := by decide +kernel
theorem dX15_make_258 : decode cX15_make 258 = .ok (.aload_n 0, 1) := by decide +kernel
theorem dX15_make_259 : decode cX15_make 259 = .ok (.aload 4, 2) := by decide +kernel
theorem dX15_make_261 : decode cX15_make 261 = .ok (.iload 6, 2) := by decide +kernel
theorem dX15_make_263 : decode cX15_make 263 = .ok (.iload 7, 2) := by decide +kernel
theorem dX15_make_265 : decode cX15_make 265 = .ok (.iadd, 1) := by decide +kernel
theorem dX15_make_266 : decode cX15_make 266 = .ok (.iconst 2, 1) := by decide +kernel
theorem dX15_make_267 : decode cX15_make 267 = .ok (.idiv, 1) := by decide +kernel
theorem dX15_make_268 : decode cX15_make 268 = .ok (.iload 11, 2) := by decide +kernel
theorem dX15_make_270 : decode cX15_make 270 = .ok (.invokevirtual 615, 3) := by decide +kernel
theorem dX15_make_273 : decode cX15_make 273 = .ok (.iload 9, 2) := by decide +kernel
theorem dX15_make_275 : decode cX15_make 275 = .ok (.iconst 3, 1) := by decide +kernel
theorem dX15_make_276 : decode cX15_make 276 = .ok (.if_icmp .eq 63, 3) := by decide +kernel
theorem dX15_make_279 : decode cX15_make 279 = .ok (.iload 8, 2) := by decide +kernel
theorem dX15_make_281 : decode cX15_make 281 = .ok (.aload_n 0, 1) := by decide +kernel
theorem dX15_make_282 : decode cX15_make 282 = .ok (.getfield 252, 3) := by decide +kernel
theorem dX15_make_285 : decode cX15_make 285 = .ok (.getfield 221, 3) := by decide +kernel
theorem dX15_make_288 : decode cX15_make 288 = .ok (.if_icmp .ne 51, 3) := by decide +kernel
theorem dX15_make_291 : decode cX15_make 291 = .ok (.iconst 0, 1) := by decide +kernel
theorem dX15_make_292 : decode cX15_make 292 = .ok (.istore 11, 2) := by decide +kernel
theorem dX15_make_294 : decode cX15_make 294 = .ok (.iload 11, 2) := by decide +kernel
theorem dX15_make_296 : decode cX15_make 296 = .ok (.aload_n 0, 1) := by decide +kernel
theorem dX15_make_297 : decode cX15_make 297 = .ok (.getfield 384, 3) := by decide +kernel
theorem dX15_make_300 : decode cX15_make 300 = .ok (.if_icmp .ge 39, 3) := by decide +kernel
theorem dX15_make_303 : decode cX15_make 303 = .ok (.aload_n 0, 1) := by decide +kernel
theorem dX15_make_304 : decode cX15_make 304 = .ok (.iload 11, 2) := by decide +kernel
theorem dX15_make_306 : decode cX15_make 306 = .ok (.iload 5, 2) := by decide +kernel
theorem dX15_make_308 : decode cX15_make 308 = .ok (.invokevirtual 498, 3) := by decide +kernel
theorem dX15_make_311 : decode cX15_make 311 = .ok (.iconst 1, 1) := by decide +kernel
theorem dX15_make_312 : decode cX15_make 312 = .ok (.if_icmp .ne 21, 3) := by decide +kernel
theorem dX15_make_315 : decode cX15_make 315 = .ok (.aload 4, 2) := by decide +kernel
theorem dX15_make_317 : decode cX15_make 317 = .ok (.dup, 1) := by decide +kernel
theorem dX15_make_318 : decode cX15_make 318 = .ok (.getfield 436, 3) := by decide +kernel
theorem dX15_make_321 : decode cX15_make 321 = .ok (.lconst 1, 1) := by decide +kernel
theorem dX15_make_322 : decode cX15_make 322 = .ok (.iload 11, 2) := by decide +kernel
theorem dX15_make_324 : decode cX15_make 324 = .ok (.lshl, 1) := by decide +kernel
theorem dX15_make_325 : decode cX15_make 325 = .ok (.ldc2_w 533, 3) := by decide +kernel
theorem dX15_make_328 : decode cX15_make 328 = .ok (.lxor, 1) := by decide +kernel
theorem dX15_make_329 : decode cX15_make 329 = .ok (.land, 1) := by decide +kernel
theorem dX15_make_330 : decode cX15_make 330 = .ok (.putfield 436, 3) := by decide +kernel
theorem dX15_make_333 : decode cX15_make 333 = .ok (.iinc 11 1, 3) := by decide +kernel
theorem dX15_make_336 : decode cX15_make 336 = .ok (.goto (-42), 3) := by decide +kernel
theorem dX15_make_339 : decode cX15_make 339 = .ok (.iload 10, 2) := by decide +kernel
theorem dX15_make_341 : decode cX15_make 341 = .ok (.ifCond .eq 24, 3) := by decide +kernel
theorem dX15_make_344 : decode cX15_make 344 = .ok (.aload_n 0, 1) := by decide +kernel
theorem dX15_make_345 : decode cX15_make 345 = .ok (.getfield 252, 3) := by decide +kernel
theorem dX15_make_348 : decode cX15_make 348 = .ok (.getfield 142, 3) := by decide +kernel
theorem dX15_make_351 : decode cX15_make 351 = .ok (.ifCond .eq 14, 3) := by decide +kernel
theorem dX15_make_354 : decode cX15_make 354 = .ok (.aload_n 0, 1) := by decide +kernel
theorem dX15_make_355 : decode cX15_make 355 = .ok (.aload 4, 2) := by decide +kernel
theorem dX15_make_357 : decode cX15_make 357 = .ok (.iload 7, 2) := by decide +kernel
theorem dX15_make_359 : decode cX15_make 359 = .ok (.invokevirtual 622, 3) := by decide +kernel
theorem dX15_make_362 : decode cX15_make 362 = .ok (.goto 146, 3) := by decide +kernel
theorem dX15_make_365 : decode cX15_make 365 = .ok (.aload_n 2, 1) := by decide +kernel
theorem dX15_make_366 : decode cX15_make 366 = .ok (.getfield 602, 3) := by decide +kernel
theorem dX15_make_369 : decode cX15_make 369 = .ok (.iload_n 3, 1) := by decide +kernel
theorem dX15_make_370 : decode cX15_make 370 = .ok (.iaload, 1) := by decide +kernel
theorem dX15_make_371 : decode cX15_make 371 = .ok (.iconst 2, 1) := by decide +kernel
theorem dX15_make_372 : decode cX15_make 372 = .ok (.if_icmp .ge 136, 3) := by decide +kernel
theorem dX15_make_375 : decode cX15_make 375 = .ok (.aload_n 2, 1) := by decide +kernel
theorem dX15_make_376 : decode cX15_make 376 = .ok (.getfield 619, 3) := by decide +kernel
theorem dX15_make_379 : decode cX15_make 379 = .ok (.iload_n 3, 1) := by decide +kernel
theorem dX15_make_380 : decode cX15_make 380 = .ok (.iaload, 1) := by decide +kernel
theorem dX15_make_381 : decode cX15_make 381 = .ok (.ifCond .le 127, 3) := by decide +kernel
theorem dX15_make_384 : decode cX15_make 384 = .ok (.aload 4, 2) := by decide +kernel
theorem dX15_make_386 : decode cX15_make 386 = .ok (.aload_n 2, 1) := by decide +kernel
theorem dX15_make_387 : decode cX15_make 387 = .ok (.getfield 619, 3) := by decide +kernel
theorem dX15_make_390 : decode cX15_make 390 = .ok (.iload_n 3, 1) := by decide +kernel
theorem dX15_make_391 : decode cX15_make 391 = .ok (.iaload, 1) := by decide +kernel
theorem dX15_make_392 : decode cX15_make 392 = .ok (.putfield 441, 3) := by decide +kernel
theorem dX15_make_395 : decode cX15_make 395 = .ok (.aload 4, 2) := by decide +kernel
theorem dX15_make_397 : decode cX15_make 397 = .ok (.getfield 439, 3) := by decide +kernel
theorem dX15_make_400 : decode cX15_make 400 = .ok (.iconst 0, 1) := by decide +kernel
theorem dX15_make_401 : decode cX15_make 401 = .ok (.iload 7, 2) := by decide +kernel
theorem dX15_make_403 : decode cX15_make 403 = .ok (.iastore, 1) := by decide +kernel
theorem dX15_make_404 : decode cX15_make 404 = .ok (.aload_n 2, 1) := by decide +kernel
theorem dX15_make_405 : decode cX15_make 405 = .ok (.getfield 619, 3) := by decide +kernel
theorem dX15_make_408 : decode cX15_make 408 = .ok (.iload_n 3, 1) := by decide +kernel
theorem dX15_make_409 : decode cX15_make 409 = .ok (.iaload, 1) := by decide +kernel
theorem dX15_make_410 : decode cX15_make 410 = .ok (.istore 11, 2) := by decide +kernel
theorem dX15_make_412 : decode cX15_make 412 = .ok (.iconst 1, 1) := by decide +kernel
theorem dX15_make_413 : decode cX15_make 413 = .ok (.istore 12, 2) := by decide +kernel
theorem dX15_make_415 : decode cX15_make 415 = .ok (.iload 12, 2) := by decide +kernel
theorem dX15_make_417 : decode cX15_make 417 = .ok (.iload 11, 2) := by decide +kernel
theorem dX15_make_419 : decode cX15_make 419 = .ok (.if_icmp .ge 89, 3) := by decide +kernel
theorem dX15_make_422 : decode cX15_make 422 = .ok (.iload 6, 2) := by decide +kernel
theorem dX15_make_424 : decode cX15_make 424 = .ok (.aload_n 0, 1) := by decide +kernel
theorem dX15_make_425 : decode cX15_make 425 = .ok (.getfield 382, 3) := by decide +kernel
theorem dX15_make_428 : decode cX15_make 428 = .ok (.irem, 1) := by decide +kernel
theorem dX15_make_429 : decode cX15_make 429 = .ok (.iload 7, 2) := by decide +kernel
theorem dX15_make_431 : decode cX15_make 431 = .ok (.aload_n 0, 1) := by decide +kernel
theorem dX15_make_432 : decode cX15_make 432 = .ok (.getfield 382, 3) := by decide +kernel
theorem dX15_make_435 : decode cX15_make 435 = .ok (.irem, 1) := by decide +kernel
theorem dX15_make_436 : decode cX15_make 436 = .ok (.iload 6, 2) := by decide +kernel
theorem dX15_make_438 : decode cX15_make 438 = .ok (.aload_n 0, 1) := by decide +kernel
theorem dX15_make_439 : decode cX15_make 439 = .ok (.getfield 382, 3) := by decide +kernel
theorem dX15_make_442 : decode cX15_make 442 = .ok (.irem, 1) := by decide +kernel
theorem dX15_make_443 : decode cX15_make 443 = .ok (.isub, 1) := by decide +kernel
theorem dX15_make_444 : decode cX15_make 444 = .ok (.iload 11, 2) := by decide +kernel
theorem dX15_make_446 : decode cX15_make 446 = .ok (.idiv, 1) := by decide +kernel
theorem dX15_make_447 : decode cX15_make 447 = .ok (.iload 12, 2) := by decide +kernel
theorem dX15_make_449 : decode cX15_make 449 = .ok (.imul, 1) := by decide +kernel
theorem dX15_make_450 : decode cX15_make 450 = .ok (.iadd, 1) := by decide +kernel
theorem dX15_make_451 : decode cX15_make 451 = .ok (.istore 13, 2) := by decide +kernel
theorem dX15_make_453 : decode cX15_make 453 = .ok (.iload 6, 2) := by decide +kernel
theorem dX15_make_455 : decode cX15_make 455 = .ok (.aload_n 0, 1) := by decide +kernel
theorem dX15_make_456 : decode cX15_make 456 = .ok (.getfield 382, 3) := by decide +kernel
theorem dX15_make_459 : decode cX15_make 459 = .ok (.idiv, 1) := by decide +kernel
theorem dX15_make_460 : decode cX15_make 460 = .ok (.iload 7, 2) := by decide +kernel
theorem dX15_make_462 : decode cX15_make 462 = .ok (.aload_n 0, 1) := by decide +kernel
theorem dX15_make_463 : decode cX15_make 463 = .ok (.getfield 382, 3) := by decide +kernel
theorem dX15_make_466 : decode cX15_make 466 = .ok (.idiv, 1) := by decide +kernel
theorem dX15_make_467 : decode cX15_make 467 = .ok (.iload 6, 2) := by decide +kernel
theorem dX15_make_469 : decode cX15_make 469 = .ok (.aload_n 0, 1) := by decide +kernel
theorem dX15_make_470 : decode cX15_make 470 = .ok (.getfield 382, 3) := by decide +kernel
theorem dX15_make_473 : decode cX15_make 473 = .ok (.idiv, 1) := by decide +kernel
theorem dX15_make_474 : decode cX15_make 474 = .ok (.isub, 1) := by decide +kernel
theorem dX15_make_475 : decode cX15_make 475 = .ok (.iload 11, 2) := by decide +kernel
theorem dX15_make_477 : decode cX15_make 477 = .ok (.idiv, 1) := by decide +kernel
theorem dX15_make_478 : decode cX15_make 478 = .ok (.iload 12, 2) := by decide +kernel
theorem dX15_make_480 : decode cX15_make 480 = .ok (.imul, 1) := by decide +kernel
theorem dX15_make_481 : decode cX15_make 481 = .ok (.iadd, 1) := by decide +kernel
theorem dX15_make_482 : decode cX15_make 482 = .ok (.istore 14, 2) := by decide +kernel
theorem dX15_make_484 : decode cX15_make 484 = .ok (.aload 4, 2) := by decide +kernel
theorem dX15_make_486 : decode cX15_make 486 = .ok (.getfield 439, 3) := by decide +kernel
theorem dX15_make_489 : decode cX15_make 489 = .ok (.iload 12, 2) := by decide +kernel
theorem dX15_make_491 : decode cX15_make 491 = .ok (.iload 14, 2) := by decide +kernel
theorem dX15_make_493 : decode cX15_make 493 = .ok (.aload_n 0, 1) := by decide +kernel
theorem dX15_make_494 : decode cX15_make 494 = .ok (.getfield 382, 3) := by decide +kernel
theorem dX15_make_497 : decode cX15_make 497 = .ok (.imul, 1) := by decide +kernel
theorem dX15_make_498 : decode cX15_make 498 = .ok (.iload 13, 2) := by decide +kernel
theorem dX15_make_500 : decode cX15_make 500 = .ok (.iadd, 1) := by decide +kernel
theorem dX15_make_501 : decode cX15_make 501 = .ok (.iastore, 1) := by decide +kernel
theorem dX15_make_502 : decode cX15_make 502 = .ok (.iinc 12 1, 3) := by decide +kernel
theorem dX15_make_505 : decode cX15_make 505 = .ok (.goto (-90), 3) := by decide +kernel
theorem dX15_make_508 : decode cX15_make 508 = .ok (.aload 4, 2) := by decide +kernel
theorem dX15_make_510 : decode cX15_make 510 = .ok (.iload 10, 2) := by decide +kernel
theorem dX15_make_512 : decode cX15_make 512 = .ok (.ifCond .ne 18, 3) := by decide +kernel
theorem dX15_make_515 : decode cX15_make 515 = .ok (.iload 9, 2) := by decide +kernel
theorem dX15_make_517 : decode cX15_make 517 = .ok (.iconst 3, 1) := by decide +kernel
theorem dX15_make_518 : decode cX15_make 518 = .ok (.if_icmp .eq 12, 3) := by decide +kernel
theorem dX15_make_521 : decode cX15_make 521 = .ok (.aload_n 0, 1) := by decide +kernel
theorem dX15_make_522 : decode cX15_make 522 = .ok (.iload 8, 2) := by decide +kernel
theorem dX15_make_524 : decode cX15_make 524 = .ok (.invokevirtual 495, 3) := by decide +kernel
theorem dX15_make_527 : decode cX15_make 527 = .ok (.ifCond .eq 7, 3) := by decide +kernel
theorem dX15_make_530 : decode cX15_make 530 = .ok (.iconst 0, 1) := by decide +kernel
theorem dX15_make_531 : decode cX15_make 531 = .ok (.goto 15, 3) := by decide +kernel
theorem dX15_make_534 : decode cX15_make 534 = .ok (.sipush 200, 3) := by decide +kernel
theorem dX15_make_537 : decode cX15_make 537 = .ok (.aload_n 1, 1) := by decide +kernel
theorem dX15_make_538 : decode cX15_make 538 = .ok (.getfield 449, 3) := by decide +kernel
theorem dX15_make_541 : decode cX15_make 541 = .ok (.iconst 1, 1) := by decide +kernel
theorem dX15_make_542 : decode cX15_make 542 = .ok (.iadd, 1) := by decide +kernel
theorem dX15_make_543 : decode cX15_make 543 = .ok (.invokestatic 624, 3) := by decide +kernel
theorem dX15_make_546 : decode cX15_make 546 = .ok (.putfield 449, 3) := by decide +kernel
theorem dX15_make_549 : decode cX15_make 549 = .ok (.aload 4, 2) := by decide +kernel
theorem dX15_make_551 : decode cX15_make 551 = .ok (.iconst 1, 1) := by decide +kernel
theorem dX15_make_552 : decode cX15_make 552 = .ok (.iload 5, 2) := by decide +kernel
theorem dX15_make_554 : decode cX15_make 554 = .ok (.isub, 1) := by decide +kernel
theorem dX15_make_555 : decode cX15_make 555 = .ok (.putfield 452, 3) := by decide +kernel
theorem dX15_make_558 : decode cX15_make 558 = .ok (.aload_n 0, 1) := by decide +kernel
theorem dX15_make_559 : decode cX15_make 559 = .ok (.getfield 252, 3) := by decide +kernel
theorem dX15_make_562 : decode cX15_make 562 = .ok (.getfield 233, 3) := by decide +kernel
theorem dX15_make_565 : decode cX15_make 565 = .ok (.ifCond .le 16, 3) := by decide +kernel
theorem dX15_make_568 : decode cX15_make 568 = .ok (.aload_n 0, 1) := by decide +kernel
theorem dX15_make_569 : decode cX15_make 569 = .ok (.aload 4, 2) := by decide +kernel
theorem dX15_make_571 : decode cX15_make 571 = .ok (.iconst 1, 1) := by decide +kernel
theorem dX15_make_572 : decode cX15_make 572 = .ok (.iload 5, 2) := by decide +kernel
theorem dX15_make_574 : decode cX15_make 574 = .ok (.isub, 1) := by decide +kernel
theorem dX15_make_575 : decode cX15_make 575 = .ok (.invokevirtual 508, 3) := by decide +kernel
theorem dX15_make_578 : decode cX15_make 578 = .ok (.goto 4, 3) := by decide +kernel
theorem dX15_make_581 : decode cX15_make 581 = .ok (.iconst (-1), 1) := by decide +kernel
theorem dX15_make_582 : decode cX15_make 582 = .ok (.istore 11, 2) := by decide +kernel
theorem dX15_make_584 : decode cX15_make 584 = .ok (.iload 11, 2) := by decide +kernel
theorem dX15_make_586 : decode cX15_make 586 = .ok (.iconst (-1), 1) := by decide +kernel
theorem dX15_make_587 : decode cX15_make 587 = .ok (.if_icmp .eq 39, 3) := by decide +kernel
theorem dX15_make_590 : decode cX15_make 590 = .ok (.aload_n 0, 1) := by decide +kernel
theorem dX15_make_591 : decode cX15_make 591 = .ok (.aload 4, 2) := by decide +kernel
theorem dX15_make_593 : decode cX15_make 593 = .ok (.iload 11, 2) := by decide +kernel
theorem dX15_make_595 : decode cX15_make 595 = .ok (.iload 5, 2) := by decide +kernel
theorem dX15_make_597 : decode cX15_make 597 = .ok (.invokevirtual 512, 3) := by decide +kernel
theorem dX15_make_600 : decode cX15_make 600 = .ok (.ifCond .eq 26, 3) := by decide +kernel
theorem dX15_make_603 : decode cX15_make 603 = .ok (.aload 4, 2) := by decide +kernel
theorem dX15_make_605 : decode cX15_make 605 = .ok (.getfield 447, 3) := by decide +kernel
theorem dX15_make_608 : decode cX15_make 608 = .ok (.iload 5, 2) := by decide +kernel
theorem dX15_make_610 : decode cX15_make 610 = .ok (.bipush 9, 2) := by decide +kernel
theorem dX15_make_612 : decode cX15_make 612 = .ok (.aload 4, 2) := by decide +kernel
theorem dX15_make_614 : decode cX15_make 614 = .ok (.getfield 447, 3) := by decide +kernel
theorem dX15_make_617 : decode cX15_make 617 = .ok (.iload 5, 2) := by decide +kernel
theorem dX15_make_619 : decode cX15_make 619 = .ok (.iaload, 1) := by decide +kernel
theorem dX15_make_620 : decode cX15_make 620 = .ok (.iconst 1, 1) := by decide +kernel
theorem dX15_make_621 : decode cX15_make 621 = .ok (.iadd, 1) := by decide +kernel
theorem dX15_make_622 : decode cX15_make 622 = .ok (.invokestatic 624, 3) := by decide +kernel
theorem dX15_make_625 : decode cX15_make 625 = .ok (.iastore, 1) := by decide +kernel
theorem dX15_make_626 : decode cX15_make 626 = .ok (.return_, 1) := by decide +kernel
set_option maxRecDepth 20000 in
theorem moX15_make_626 {o : Hp} {F : Nat} {h : Hp} (hE : sX15_make_626 F h  = some o) : Le h o := by
  exact le_some1 hE
set_option maxRecDepth 20000 in
theorem moX15_make_582 {o : Hp} {F : Nat} {h : Hp} {x0 : Nat} {x4 : Nat} {x5 : Int32} {t0 : Int32} (hE : sX15_make_582 F h x0 x4 x5 t0 = some o) : Le h o := by
  rcases br_e hE with ⟨_, hE⟩ | ⟨_, hE⟩
  · exact moX15_make_626 hE
  · obtain ⟨o_2, eo_2, hE⟩ := cl_e hE
    refine (moX15_isAttacked eo_2).tr ?_
    rcases br_e hE with ⟨_, hE⟩ | ⟨_, hE⟩
    · exact moX15_make_626 hE
    · obtain ⟨r_4, er_4, hE⟩ := cl_e hE
      obtain ⟨r_5, er_5, hE⟩ := cl_e hE
      obtain ⟨g_6, hE⟩ := gd_e hE
      obtain ⟨g_7, hE⟩ := gd_e hE
      obtain ⟨h_8, eh_8, hE⟩ := nm_e2 hE
      refine (le_I eh_8).tr ?_
      exact moX15_make_626 hE
set_option maxRecDepth 20000 in
theorem moX15_make_546 {o : Hp} {F : Nat} {h : Hp} {x0 : Nat} {x4 : Nat} {x5 : Int32} {t0 : Int32} {t1 : Nat} (hE : sX15_make_546 F h x0 x4 x5 t0 t1 = some o) : Le h o := by
  obtain ⟨h_1, eh_1, hE⟩ := nm_e2 hE
  refine (le_I eh_1).tr ?_
  obtain ⟨h_2, eh_2, hE⟩ := nm_e2 hE
  refine (le_I eh_2).tr ?_
  obtain ⟨r_3, er_3, hE⟩ := cl_e hE
  rcases br_e hE with ⟨_, hE⟩ | ⟨_, hE⟩
  · exact moX15_make_582 hE
  · obtain ⟨o_5, eo_5, hE⟩ := cl_e hE
    refine (moX15_royalOf eo_5).tr ?_
    exact moX15_make_582 hE
set_option maxRecDepth 20000 in
theorem moX15_make_530 {o : Hp} {F : Nat} {h : Hp} {x0 : Nat} {x4 : Nat} {x5 : Int32} {t0 : Nat} (hE : sX15_make_530 F h x0 x4 x5 t0 = some o) : Le h o := by
  exact moX15_make_546 hE
set_option maxRecDepth 20000 in
theorem moX15_make_508 {o : Hp} {F : Nat} {h : Hp} {x0 : Nat} {x1 : Nat} {x4 : Nat} {x5 : Int32} {x8 : Int32} {x9 : Int32} {x10 : Int32} (hE : sX15_make_508 F h x0 x1 x4 x5 x8 x9 x10 = some o) : Le h o := by
  rcases br_e hE with ⟨_, hE⟩ | ⟨_, hE⟩
  · rcases br_e hE with ⟨_, hE⟩ | ⟨_, hE⟩
    · exact moX15_make_530 hE
    · obtain ⟨o_3, eo_3, hE⟩ := cl_e hE
      refine (moX15_becomesOthers eo_3).tr ?_
      rcases br_e hE with ⟨_, hE⟩ | ⟨_, hE⟩
      · exact moX15_make_546 hE
      · exact moX15_make_530 hE
  · exact moX15_make_530 hE
set_option maxRecDepth 20000 in
theorem moX15_make_415 {o : Hp} {F : Nat} : ∀ (f : Nat) {h : Hp} {x0 : Nat} {x1 : Nat} {x4 : Nat} {x5 : Int32} {x6 : Int32} {x7 : Int32} {x8 : Int32} {x9 : Int32} {x10 : Int32} {x11 : Int32} {x12 : Int32}, sX15_make_415 F f h x0 x1 x4 x5 x6 x7 x8 x9 x10 x11 x12 = some o → Le h o := by
  intro f
  induction f with
  | zero =>
    intro h x0 x1 x4 x5 x6 x7 x8 x9 x10 x11 x12 hE
    rw [sX15_make_415] at hE
    cases hE
  | succ f ih =>
    intro h x0 x1 x4 x5 x6 x7 x8 x9 x10 x11 x12 hE
    rw [sX15_make_415] at hE
    have mk_415 : ∀ (h : Hp) (x0 : Nat) (x1 : Nat) (x4 : Nat) (x5 : Int32) (x6 : Int32) (x7 : Int32) (x8 : Int32) (x9 : Int32) (x10 : Int32) (x11 : Int32) (x12 : Int32), sX15_make_415 F f h x0 x1 x4 x5 x6 x7 x8 x9 x10 x11 x12 = some o → Le h o := fun h x0 x1 x4 x5 x6 x7 x8 x9 x10 x11 x12 hE => ih hE
    rcases br_e hE with ⟨_, hE⟩ | ⟨_, hE⟩
    · exact moX15_make_508 hE
    · obtain ⟨g_2, hE⟩ := gd_e hE
      obtain ⟨g_3, hE⟩ := gd_e hE
      obtain ⟨g_4, hE⟩ := gd_e hE
      obtain ⟨g_5, hE⟩ := gd_e hE
      obtain ⟨v_6, ev_6, hE⟩ := nm_e2 hE
      obtain ⟨g_7, hE⟩ := gd_e hE
      obtain ⟨g_8, hE⟩ := gd_e hE
      obtain ⟨g_9, hE⟩ := gd_e hE
      obtain ⟨g_10, hE⟩ := gd_e hE
      obtain ⟨v_11, ev_11, hE⟩ := nm_e2 hE
      obtain ⟨r_12, er_12, hE⟩ := cl_e hE
      obtain ⟨g_13, hE⟩ := gd_e hE
      obtain ⟨h_14, eh_14, hE⟩ := nm_e2 hE
      refine (le_I eh_14).tr ?_
      obtain ⟨v_15, ev_15, hE⟩ := nm_e2 hE
      exact mk_415 _ _ _ _ _ _ _ _ _ _ _ _ hE
set_option maxRecDepth 20000 in
theorem moX15_make_365 {o : Hp} {F : Nat} {h : Hp} {x0 : Nat} {x1 : Nat} {x2 : Nat} {x3 : Int32} {x4 : Nat} {x5 : Int32} {x6 : Int32} {x7 : Int32} {x8 : Int32} {x9 : Int32} {x10 : Int32} (hE : sX15_make_365 F h x0 x1 x2 x3 x4 x5 x6 x7 x8 x9 x10 = some o) : Le h o := by
  obtain ⟨r_1, er_1, hE⟩ := cl_e hE
  obtain ⟨g_2, hE⟩ := gd_e hE
  rcases br_e hE with ⟨_, hE⟩ | ⟨_, hE⟩
  · exact moX15_make_508 hE
  · obtain ⟨r_4, er_4, hE⟩ := cl_e hE
    obtain ⟨g_5, hE⟩ := gd_e hE
    rcases br_e hE with ⟨_, hE⟩ | ⟨_, hE⟩
    · exact moX15_make_508 hE
    · obtain ⟨r_7, er_7, hE⟩ := cl_e hE
      obtain ⟨g_8, hE⟩ := gd_e hE
      obtain ⟨h_9, eh_9, hE⟩ := nm_e2 hE
      refine (le_I eh_9).tr ?_
      obtain ⟨r_10, er_10, hE⟩ := cl_e hE
      obtain ⟨g_11, hE⟩ := gd_e hE
      obtain ⟨h_12, eh_12, hE⟩ := nm_e2 hE
      refine (le_I eh_12).tr ?_
      obtain ⟨r_13, er_13, hE⟩ := cl_e hE
      obtain ⟨g_14, hE⟩ := gd_e hE
      obtain ⟨v_15, ev_15, hE⟩ := nm_e2 hE
      exact moX15_make_415 _ hE
set_option maxRecDepth 20000 in
theorem moX15_make_339 {o : Hp} {F : Nat} {h : Hp} {x0 : Nat} {x1 : Nat} {x2 : Nat} {x3 : Int32} {x4 : Nat} {x5 : Int32} {x6 : Int32} {x7 : Int32} {x8 : Int32} {x9 : Int32} {x10 : Int32} (hE : sX15_make_339 F h x0 x1 x2 x3 x4 x5 x6 x7 x8 x9 x10 = some o) : Le h o := by
  rcases br_e hE with ⟨_, hE⟩ | ⟨_, hE⟩
  · exact moX15_make_365 hE
  · obtain ⟨r_2, er_2, hE⟩ := cl_e hE
    rcases br_e hE with ⟨_, hE⟩ | ⟨_, hE⟩
    · exact moX15_make_365 hE
    · obtain ⟨o_4, eo_4, hE⟩ := cl_e hE
      refine (moX15_blast eo_4).tr ?_
      exact moX15_make_508 hE
set_option maxRecDepth 20000 in
theorem moX15_make_333 {o : Hp} {k_294 : Hp → Nat → Nat → Nat → Int32 → Nat → Int32 → Int32 → Int32 → Int32 → Int32 → Int32 → Int32 → Option (Hp)} {F : Nat} (mk_294 : ∀ (h : Hp) (x0 : Nat) (x1 : Nat) (x2 : Nat) (x3 : Int32) (x4 : Nat) (x5 : Int32) (x6 : Int32) (x7 : Int32) (x8 : Int32) (x9 : Int32) (x10 : Int32) (x11 : Int32), k_294 h x0 x1 x2 x3 x4 x5 x6 x7 x8 x9 x10 x11 = some o → Le h o) {h : Hp} {x0 : Nat} {x1 : Nat} {x2 : Nat} {x3 : Int32} {x4 : Nat} {x5 : Int32} {x6 : Int32} {x7 : Int32} {x8 : Int32} {x9 : Int32} {x10 : Int32} {x11 : Int32} (hE : sX15_make_333 F k_294 h x0 x1 x2 x3 x4 x5 x6 x7 x8 x9 x10 x11 = some o) : Le h o := by
  obtain ⟨v_1, ev_1, hE⟩ := nm_e2 hE
  exact mk_294 _ _ _ _ _ _ _ _ _ _ _ _ _ hE
set_option maxRecDepth 20000 in
theorem moX15_make_294 {o : Hp} {F : Nat} : ∀ (f : Nat) {h : Hp} {x0 : Nat} {x1 : Nat} {x2 : Nat} {x3 : Int32} {x4 : Nat} {x5 : Int32} {x6 : Int32} {x7 : Int32} {x8 : Int32} {x9 : Int32} {x10 : Int32} {x11 : Int32}, sX15_make_294 F f h x0 x1 x2 x3 x4 x5 x6 x7 x8 x9 x10 x11 = some o → Le h o := by
  intro f
  induction f with
  | zero =>
    intro h x0 x1 x2 x3 x4 x5 x6 x7 x8 x9 x10 x11 hE
    rw [sX15_make_294] at hE
    cases hE
  | succ f ih =>
    intro h x0 x1 x2 x3 x4 x5 x6 x7 x8 x9 x10 x11 hE
    rw [sX15_make_294] at hE
    have mk_294 : ∀ (h : Hp) (x0 : Nat) (x1 : Nat) (x2 : Nat) (x3 : Int32) (x4 : Nat) (x5 : Int32) (x6 : Int32) (x7 : Int32) (x8 : Int32) (x9 : Int32) (x10 : Int32) (x11 : Int32), sX15_make_294 F f h x0 x1 x2 x3 x4 x5 x6 x7 x8 x9 x10 x11 = some o → Le h o := fun h x0 x1 x2 x3 x4 x5 x6 x7 x8 x9 x10 x11 hE => ih hE
    rcases br_e hE with ⟨_, hE⟩ | ⟨_, hE⟩
    · exact moX15_make_339 hE
    · obtain ⟨o_2, eo_2, hE⟩ := cl_e hE
      refine (moX15_rankFor eo_2).tr ?_
      rcases br_e hE with ⟨_, hE⟩ | ⟨_, hE⟩
      · obtain ⟨h_4, eh_4, hE⟩ := nm_e2 hE
        refine (le_J eh_4).tr ?_
        exact moX15_make_333 mk_294 hE
      · exact moX15_make_333 mk_294 hE
set_option maxRecDepth 20000 in
theorem moX15_make_273 {o : Hp} {F : Nat} {h : Hp} {x0 : Nat} {x1 : Nat} {x2 : Nat} {x3 : Int32} {x4 : Nat} {x5 : Int32} {x6 : Int32} {x7 : Int32} {x8 : Int32} {x9 : Int32} {x10 : Int32} (hE : sX15_make_273 F h x0 x1 x2 x3 x4 x5 x6 x7 x8 x9 x10 = some o) : Le h o := by
  rcases br_e hE with ⟨_, hE⟩ | ⟨_, hE⟩
  · exact moX15_make_339 hE
  · obtain ⟨r_2, er_2, hE⟩ := cl_e hE
    rcases br_e hE with ⟨_, hE⟩ | ⟨_, hE⟩
    · exact moX15_make_294 _ hE
    · exact moX15_make_339 hE
set_option maxRecDepth 20000 in
theorem moX15_make_219 {o : Hp} {F : Nat} {h : Hp} {x0 : Nat} {x1 : Nat} {x2 : Nat} {x3 : Int32} {x4 : Nat} {x5 : Int32} {x6 : Int32} {x7 : Int32} {x8 : Int32} {x9 : Int32} {x10 : Int32} {t0 : Int32} {t1 : Int32} {t2 : Nat} {t3 : Nat} (hE : sX15_make_219 F h x0 x1 x2 x3 x4 x5 x6 x7 x8 x9 x10 t0 t1 t2 t3 = some o) : Le h o := by
  obtain ⟨o_1, eo_1, hE⟩ := cl_e hE
  refine (moX15_valueOf eo_1).tr ?_
  obtain ⟨o_2, eo_2, hE⟩ := cl_e hE
  refine (moX15_come eo_2).tr ?_
  rcases br_e hE with ⟨_, hE⟩ | ⟨_, hE⟩
  · obtain ⟨r_4, er_4, hE⟩ := cl_e hE
    obtain ⟨r_5, er_5, hE⟩ := cl_e hE
    obtain ⟨g_6, hE⟩ := gd_e hE
    obtain ⟨g_7, hE⟩ := gd_e hE
    obtain ⟨v_8, ev_8, hE⟩ := nm_e2 hE
    obtain ⟨r_9, er_9, hE⟩ := cl_e hE
    obtain ⟨g_10, hE⟩ := gd_e hE
    obtain ⟨o_11, eo_11, hE⟩ := cl_e hE
    refine (moX15_leave eo_11).tr ?_
    obtain ⟨o_12, eo_12, hE⟩ := cl_e hE
    refine (moX15_come eo_12).tr ?_
    exact moX15_make_273 hE
  · exact moX15_make_273 hE
set_option maxRecDepth 20000 in
theorem moX15_make_193 {o : Hp} {F : Nat} {h : Hp} {x0 : Nat} {x1 : Nat} {x2 : Nat} {x3 : Int32} {x4 : Nat} {x5 : Int32} {x6 : Int32} {x7 : Int32} {x8 : Int32} {x9 : Int32} {x10 : Int32} (hE : sX15_make_193 F h x0 x1 x2 x3 x4 x5 x6 x7 x8 x9 x10 = some o) : Le h o := by
  obtain ⟨r_1, er_1, hE⟩ := cl_e hE
  obtain ⟨g_2, hE⟩ := gd_e hE
  rcases br_e hE with ⟨_, hE⟩ | ⟨_, hE⟩
  · exact moX15_make_219 hE
  · obtain ⟨r_4, er_4, hE⟩ := cl_e hE
    obtain ⟨g_5, hE⟩ := gd_e hE
    exact moX15_make_219 hE
set_option maxRecDepth 20000 in
theorem moX15_make_159 {o : Hp} {F : Nat} {h : Hp} {x0 : Nat} {x1 : Nat} {x2 : Nat} {x3 : Int32} {x4 : Nat} {x5 : Int32} {x6 : Int32} {x7 : Int32} {x8 : Int32} {x9 : Int32} {x10 : Int32} (hE : sX15_make_159 F h x0 x1 x2 x3 x4 x5 x6 x7 x8 x9 x10 = some o) : Le h o := by
  rcases br_e hE with ⟨_, hE⟩ | ⟨_, hE⟩
  · obtain ⟨r_3, er_3, hE⟩ := cl_e hE
    obtain ⟨g_4, hE⟩ := gd_e hE
    obtain ⟨g_5, hE⟩ := gd_e hE
    obtain ⟨h_6, eh_6, hE⟩ := nm_e2 hE
    refine (le_I eh_6).tr ?_
    exact moX15_make_193 hE
  · obtain ⟨o_2, eo_2, hE⟩ := cl_e hE
    refine (moX15_leave eo_2).tr ?_
    exact moX15_make_193 hE
set_option maxRecDepth 20000 in
theorem moX15_make_92 {o : Hp} {F : Nat} {h : Hp} {x0 : Nat} {x1 : Nat} {x2 : Nat} {x3 : Int32} {x4 : Nat} {x5 : Int32} {x6 : Int32} {x7 : Int32} {x8 : Int32} {x9 : Int32} {x10 : Int32} {t0 : Int32} {t1 : Nat} {t2 : Nat} (hE : sX15_make_92 F h x0 x1 x2 x3 x4 x5 x6 x7 x8 x9 x10 t0 t1 t2 = some o) : Le h o := by
  obtain ⟨o_1, eo_1, hE⟩ := cl_e hE
  refine (moX15_leave eo_1).tr ?_
  obtain ⟨r_2, er_2, hE⟩ := cl_e hE
  obtain ⟨g_3, hE⟩ := gd_e hE
  obtain ⟨v_4, ev_4, hE⟩ := nm_e2 hE
  obtain ⟨r_5, er_5, hE⟩ := cl_e hE
  rcases br_e hE with ⟨_, hE⟩ | ⟨_, hE⟩
  · exact moX15_make_159 hE
  · obtain ⟨r_7, er_7, hE⟩ := cl_e hE
    obtain ⟨g_8, hE⟩ := gd_e hE
    obtain ⟨r_9, er_9, hE⟩ := cl_e hE
    rcases br_e hE with ⟨_, hE⟩ | ⟨_, hE⟩
    · exact moX15_make_159 hE
    · obtain ⟨r_11, er_11, hE⟩ := cl_e hE
      obtain ⟨g_12, hE⟩ := gd_e hE
      rcases br_e hE with ⟨_, hE⟩ | ⟨_, hE⟩
      · exact moX15_make_159 hE
      · obtain ⟨r_14, er_14, hE⟩ := cl_e hE
        obtain ⟨g_15, hE⟩ := gd_e hE
        obtain ⟨g_16, hE⟩ := gd_e hE
        obtain ⟨h_17, eh_17, hE⟩ := nm_e2 hE
        refine (le_I eh_17).tr ?_
        exact moX15_make_159 hE
set_option maxRecDepth 20000 in
theorem moX15_make_65 {o : Hp} {F : Nat} {h : Hp} {x0 : Nat} {x1 : Nat} {x2 : Nat} {x3 : Int32} {x4 : Nat} {x5 : Int32} {x6 : Int32} {x7 : Int32} {x8 : Int32} {x9 : Int32} {t0 : Int32} (hE : sX15_make_65 F h x0 x1 x2 x3 x4 x5 x6 x7 x8 x9 t0 = some o) : Le h o := by
  rcases br_e hE with ⟨_, hE⟩ | ⟨_, hE⟩
  · exact moX15_make_159 hE
  · rcases br_e hE with ⟨_, hE⟩ | ⟨_, hE⟩
    · obtain ⟨r_3, er_3, hE⟩ := cl_e hE
      obtain ⟨g_4, hE⟩ := gd_e hE
      exact moX15_make_92 hE
    · exact moX15_make_92 hE
set_option maxRecDepth 20000 in
theorem moX15_make {o : Hp} {F : Nat} {h : Hp} {x0 : Nat} {x1 : Nat} {x2 : Nat} {x3 : Int32} {x4 : Nat} (hE : sX15_make F h x0 x1 x2 x3 x4 = some o) : Le h o := by
  obtain ⟨o_1, eo_1, hE⟩ := cl_e hE
  refine (moX12_copy eo_1).tr ?_
  obtain ⟨v_2, ev_2, hE⟩ := nm_e2 hE
  obtain ⟨r_3, er_3, hE⟩ := cl_e hE
  obtain ⟨g_4, hE⟩ := gd_e hE
  obtain ⟨v_5, ev_5, hE⟩ := nm_e2 hE
  obtain ⟨r_6, er_6, hE⟩ := cl_e hE
  obtain ⟨g_7, hE⟩ := gd_e hE
  obtain ⟨v_8, ev_8, hE⟩ := nm_e2 hE
  obtain ⟨r_9, er_9, hE⟩ := cl_e hE
  obtain ⟨g_10, hE⟩ := gd_e hE
  obtain ⟨v_11, ev_11, hE⟩ := nm_e2 hE
  obtain ⟨r_12, er_12, hE⟩ := cl_e hE
  obtain ⟨g_13, hE⟩ := gd_e hE
  obtain ⟨v_14, ev_14, hE⟩ := nm_e2 hE
  obtain ⟨h_15, eh_15, hE⟩ := nm_e2 hE
  refine (le_I eh_15).tr ?_
  obtain ⟨r_16, er_16, hE⟩ := cl_e hE
  obtain ⟨g_17, hE⟩ := gd_e hE
  rcases br_e hE with ⟨_, hE⟩ | ⟨_, hE⟩
  · exact moX15_make_65 hE
  · exact moX15_make_65 hE
set_option maxRecDepth 20000 in
theorem bX15_make_626 {p : Program} {l : Launch} {e : Env} {s : State} {m : MethodId} {args : Array Value} {below : List Frame} {meth : Method} {c : Code} {X : Ec} {h0 : Hp} {o : Hp} {F : Nat} (C : Cx X p s m args meth c RX15 cX15_make 15 none "make") {h : Hp} {H : Heap} {locs : List Loc} (hkm : Km h0 h) (hW : Wx X h H) (hZ : va_S (aA (eB X)) s.heap H locs) (ls : Array Slot) (hl : lv_has ls 15 []) (hE : sX15_make_626 F h  = some o) : W p l e (rm 4 106) s m args below meth c H locs 0 0 (MQ below (QV X h0 o) args s 0 0 (aA (eB X))) (F0 m 626 ls []) := by
  exact x_vret C rfl hW hZ hkm hE dX15_make_626
set_option maxRecDepth 20000 in
theorem bX15_make_582 {p : Program} {l : Launch} {e : Env} {s : State} {m : MethodId} {args : Array Value} {below : List Frame} {meth : Method} {c : Code} {X : Ec} {h0 : Hp} {o : Hp} {F : Nat} (C : Cx X p s m args meth c RX15 cX15_make 15 none "make") {h : Hp} {x0 : Nat} {x4 : Nat} {x5 : Int32} {t0 : Int32} {H : Heap} {locs : List Loc} (k_x0 : hK h x0 = 15) (k_x4 : hK h x4 = 12) (hkm : Km h0 h) (hW : Wx X h H) (hZ : va_S (aA (eB X)) s.heap H locs) (ls : Array Slot) (hl : lv_has ls 15 [(0, .ref x0), (4, .ref x4), (5, .int x5)]) (hE : sX15_make_582 F h x0 x4 x5 t0 = some o) : W p l e (rm 4 106) s m args below meth c H locs 0 0 (MQ below (QV X h0 o) args s 0 0 (aA (eB X))) (F0 m 582 ls [.int t0]) := by
  refine lv_istore (lv' := [(11, .int t0), (0, .ref x0), (4, .ref x4), (5, .int x5)]) C.1 C.2.1 dX15_make_582 hl (by decide) rfl (fun ls hl => ?_)
  refine lv_iload C.1 C.2.1 dX15_make_584 (lv_at hl 0 rfl) ?_
  refine lv_iconst (v := (-1 : Int32)) C.1 C.2.1 dX15_make_586 (by decide) ?_
  refine lv_icmp_eq (tgt := 626) C.1 C.2.1 dX15_make_587 (by decide) (fun c_1 => ?_) (fun c_1 => ?_)
  · have hE := br_p hE c_1
    exact bX15_make_626 C hkm hW hZ _ (lv_sub hl [] rfl) hE
  · have hE := br_n hE c_1
    refine lv_aload_n C.1 C.2.1 dX15_make_590 rfl (lv_at hl 1 rfl) ?_
    refine lv_aload C.1 C.2.1 dX15_make_591 (lv_at hl 2 rfl) ?_
    refine lv_iload C.1 C.2.1 dX15_make_593 (lv_at hl 0 rfl) ?_
    refine lv_iload C.1 C.2.1 dX15_make_595 (lv_at hl 3 rfl) ?_
    obtain ⟨o_2, eo_2, hE⟩ := cl_e hE
    refine x_kI (o := o_2) (z_runV (As := [.ref x4, .int t0, .int x5]) (rest := []) C (ct_X15_isAttacked l X F k_x0 k_x4 eo_2) cw_X15_512 hW hZ k_x0 (by decide) rfl rfl rfl hl.1 (Nat.le_of_ble_eq_true rfl) rfl dX15_make_597 ⟨Nat.le_of_ble_eq_true rfl, Nat.le_of_ble_eq_true rfl⟩ ⟨Nat.le_refl _, Nat.le_refl _⟩) hZ (fun _ _ hW km hZ => ?_)
    replace hkm := hkm.tr km
    replace k_x0 := km.at k_x0 (by decide)
    replace k_x4 := km.at k_x4 (by decide)
    refine lv_if_eq (tgt := 626) C.1 C.2.1 dX15_make_600 (by decide) (fun c_3 => ?_) (fun c_3 => ?_)
    · have hE := br_p hE c_3
      exact bX15_make_626 C hkm hW hZ _ (lv_sub hl [] rfl) hE
    · have hE := br_n hE c_3
      refine lv_aload C.1 C.2.1 dX15_make_603 (lv_at hl 2 rfl) ?_
      obtain ⟨r_4, er_4, hE⟩ := cl_e hE
      refine gf_X15_447 C hW k_x4 er_4 dX15_make_605 (fun k_r_4 => ?_)
      refine lv_iload C.1 C.2.1 dX15_make_608 (lv_at hl 3 rfl) ?_
      refine lv_bipush (v := (9 : Int32)) C.1 C.2.1 dX15_make_610 (by decide) ?_
      refine lv_aload C.1 C.2.1 dX15_make_612 (lv_at hl 2 rfl) ?_
      obtain ⟨r_5, er_5, hE⟩ := cl_e hE
      refine gf_X15_447 C hW k_x4 er_5 dX15_make_614 (fun k_r_5 => ?_)
      refine lv_iload C.1 C.2.1 dX15_make_617 (lv_at hl 3 rfl) ?_
      obtain ⟨g_6, hE⟩ := gd_e hE
      refine y_iald C hW k_r_5 g_6 dX15_make_619 ?_
      refine lv_iconst (v := (1 : Int32)) C.1 C.2.1 dX15_make_620 (by decide) ?_
      refine lv_iadd C.1 C.2.1 dX15_make_621 ?_
      refine va_mmin C.1 C.2.1 (C.2.2.1.trans hl.1.symm) C.2.2.2.1 (C.2.2.2.2.1 _ m_2579) (C.2.2.2.2.1 _ m_1340) (C.2.2.2.2.1 _ m_3) (C.2.2.2.2.1 _ m_1341) (Nat.le_of_ble_eq_true rfl) (Nat.le_of_ble_eq_true rfl) (Nat.le_refl _) (Nat.le_refl _) dX15_make_622 ?_
      obtain ⟨g_7, hE⟩ := gd_e hE
      obtain ⟨h_8, eh_8, hE⟩ := nm_e2 hE
      refine y_iast C hW hZ k_r_4 g_7 eh_8 dX15_make_625 (fun _ _ hW km hZ => ?_)
      replace hkm := hkm.tr km
      replace k_x0 := km.at k_x0 (by decide)
      replace k_x4 := km.at k_x4 (by decide)
      exact bX15_make_626 C hkm hW hZ _ (lv_sub hl [] rfl) hE
set_option maxRecDepth 20000 in
theorem bX15_make_546 {p : Program} {l : Launch} {e : Env} {s : State} {m : MethodId} {args : Array Value} {below : List Frame} {meth : Method} {c : Code} {X : Ec} {h0 : Hp} {o : Hp} {F : Nat} (C : Cx X p s m args meth c RX15 cX15_make 15 none "make") {h : Hp} {x0 : Nat} {x4 : Nat} {x5 : Int32} {t0 : Int32} {t1 : Nat} {H : Heap} {locs : List Loc} (k_x0 : hK h x0 = 15) (k_x4 : hK h x4 = 12) (k_t1 : hK h t1 = 12) (hkm : Km h0 h) (hW : Wx X h H) (hZ : va_S (aA (eB X)) s.heap H locs) (ls : Array Slot) (hl : lv_has ls 15 [(0, .ref x0), (4, .ref x4), (5, .int x5)]) (hE : sX15_make_546 F h x0 x4 x5 t0 t1 = some o) : W p l e (rm 4 106) s m args below meth c H locs 0 0 (MQ below (QV X h0 o) args s 0 0 (aA (eB X))) (F0 m 546 ls [.int t0, .ref t1]) := by
  obtain ⟨h_1, eh_1, hE⟩ := nm_e2 hE
  refine pf_X15_449 C hW hZ k_t1 eh_1 dX15_make_546 (fun _ _ hW km hZ => ?_)
  replace hkm := hkm.tr km
  replace k_x0 := km.at k_x0 (by decide)
  replace k_x4 := km.at k_x4 (by decide)
  refine lv_aload C.1 C.2.1 dX15_make_549 (lv_at hl 1 rfl) ?_
  refine lv_iconst (v := (1 : Int32)) C.1 C.2.1 dX15_make_551 (by decide) ?_
  refine lv_iload C.1 C.2.1 dX15_make_552 (lv_at hl 2 rfl) ?_
  refine lv_isub C.1 C.2.1 dX15_make_554 ?_
  obtain ⟨h_2, eh_2, hE⟩ := nm_e2 hE
  refine pf_X15_452 C hW hZ k_x4 eh_2 dX15_make_555 (fun _ _ hW km hZ => ?_)
  replace hkm := hkm.tr km
  replace k_x0 := km.at k_x0 (by decide)
  replace k_x4 := km.at k_x4 (by decide)
  refine lv_aload_n C.1 C.2.1 dX15_make_558 rfl (lv_at hl 0 rfl) ?_
  obtain ⟨r_3, er_3, hE⟩ := cl_e hE
  refine gf_X15_252 C hW k_x0 er_3 dX15_make_559 (fun k_r_3 => ?_)
  refine gf_X15_233 C hW k_r_3 dX15_make_562 ?_
  refine lv_if_le (tgt := 581) C.1 C.2.1 dX15_make_565 (by decide) (fun c_4 => ?_) (fun c_4 => ?_)
  · have hE := br_p hE c_4
    refine lv_iconst (v := (-1 : Int32)) C.1 C.2.1 dX15_make_581 (by decide) ?_
    exact bX15_make_582 C k_x0 k_x4 hkm hW hZ _ (lv_sub hl [0, 1, 2] rfl) hE
  · have hE := br_n hE c_4
    refine lv_aload_n C.1 C.2.1 dX15_make_568 rfl (lv_at hl 0 rfl) ?_
    refine lv_aload C.1 C.2.1 dX15_make_569 (lv_at hl 1 rfl) ?_
    refine lv_iconst (v := (1 : Int32)) C.1 C.2.1 dX15_make_571 (by decide) ?_
    refine lv_iload C.1 C.2.1 dX15_make_572 (lv_at hl 2 rfl) ?_
    refine lv_isub C.1 C.2.1 dX15_make_574 ?_
    obtain ⟨o_5, eo_5, hE⟩ := cl_e hE
    refine x_kI (o := o_5) (z_runV (As := [.ref x4, .int ((1 : Int32) - x5)]) (rest := []) C (ct_X15_royalOf l X F k_x0 k_x4 eo_5) cw_X15_508 hW hZ k_x0 (by decide) rfl rfl rfl hl.1 (Nat.le_of_ble_eq_true rfl) rfl dX15_make_575 ⟨Nat.le_of_ble_eq_true rfl, Nat.le_of_ble_eq_true rfl⟩ ⟨Nat.le_refl _, Nat.le_refl _⟩) hZ (fun _ _ hW km hZ => ?_)
    replace hkm := hkm.tr km
    replace k_x0 := km.at k_x0 (by decide)
    replace k_x4 := km.at k_x4 (by decide)
    refine lv_goto (tgt := 582) C.1 C.2.1 dX15_make_578 (by decide) ?_
    exact bX15_make_582 C k_x0 k_x4 hkm hW hZ _ (lv_sub hl [0, 1, 2] rfl) hE
set_option maxRecDepth 20000 in
theorem bX15_make_530 {p : Program} {l : Launch} {e : Env} {s : State} {m : MethodId} {args : Array Value} {below : List Frame} {meth : Method} {c : Code} {X : Ec} {h0 : Hp} {o : Hp} {F : Nat} (C : Cx X p s m args meth c RX15 cX15_make 15 none "make") {h : Hp} {x0 : Nat} {x4 : Nat} {x5 : Int32} {t0 : Nat} {H : Heap} {locs : List Loc} (k_x0 : hK h x0 = 15) (k_x4 : hK h x4 = 12) (k_t0 : hK h t0 = 12) (hkm : Km h0 h) (hW : Wx X h H) (hZ : va_S (aA (eB X)) s.heap H locs) (ls : Array Slot) (hl : lv_has ls 15 [(0, .ref x0), (4, .ref x4), (5, .int x5)]) (hE : sX15_make_530 F h x0 x4 x5 t0 = some o) : W p l e (rm 4 106) s m args below meth c H locs 0 0 (MQ below (QV X h0 o) args s 0 0 (aA (eB X))) (F0 m 530 ls [.ref t0]) := by
  refine lv_iconst (v := (0 : Int32)) C.1 C.2.1 dX15_make_530 (by decide) ?_
  refine lv_goto (tgt := 546) C.1 C.2.1 dX15_make_531 (by decide) ?_
  exact bX15_make_546 C k_x0 k_x4 k_t0 hkm hW hZ _ (lv_sub hl [0, 1, 2] rfl) hE
set_option maxRecDepth 20000 in
theorem bX15_make_508 {p : Program} {l : Launch} {e : Env} {s : State} {m : MethodId} {args : Array Value} {below : List Frame} {meth : Method} {c : Code} {X : Ec} {h0 : Hp} {o : Hp} {F : Nat} (C : Cx X p s m args meth c RX15 cX15_make 15 none "make") {h : Hp} {x0 : Nat} {x1 : Nat} {x4 : Nat} {x5 : Int32} {x8 : Int32} {x9 : Int32} {x10 : Int32} {H : Heap} {locs : List Loc} (k_x0 : hK h x0 = 15) (k_x1 : hK h x1 = 12) (k_x4 : hK h x4 = 12) (hkm : Km h0 h) (hW : Wx X h H) (hZ : va_S (aA (eB X)) s.heap H locs) (ls : Array Slot) (hl : lv_has ls 15 [(0, .ref x0), (1, .ref x1), (4, .ref x4), (5, .int x5), (8, .int x8), (9, .int x9), (10, .int x10)]) (hE : sX15_make_508 F h x0 x1 x4 x5 x8 x9 x10 = some o) : W p l e (rm 4 106) s m args below meth c H locs 0 0 (MQ below (QV X h0 o) args s 0 0 (aA (eB X))) (F0 m 508 ls []) := by
  refine lv_aload C.1 C.2.1 dX15_make_508 (lv_at hl 2 rfl) ?_
  refine lv_iload C.1 C.2.1 dX15_make_510 (lv_at hl 6 rfl) ?_
  refine lv_if_ne (tgt := 530) C.1 C.2.1 dX15_make_512 (by decide) (fun c_1 => ?_) (fun c_1 => ?_)
  · have hE := br_n hE c_1
    exact bX15_make_530 C k_x0 k_x4 k_x4 hkm hW hZ _ (lv_sub hl [0, 2, 3] rfl) hE
  · have hE := br_p hE c_1
    refine lv_iload C.1 C.2.1 dX15_make_515 (lv_at hl 5 rfl) ?_
    refine lv_iconst (v := (3 : Int32)) C.1 C.2.1 dX15_make_517 (by decide) ?_
    refine lv_icmp_eq (tgt := 530) C.1 C.2.1 dX15_make_518 (by decide) (fun c_2 => ?_) (fun c_2 => ?_)
    · have hE := br_p hE c_2
      exact bX15_make_530 C k_x0 k_x4 k_x4 hkm hW hZ _ (lv_sub hl [0, 2, 3] rfl) hE
    · have hE := br_n hE c_2
      refine lv_aload_n C.1 C.2.1 dX15_make_521 rfl (lv_at hl 0 rfl) ?_
      refine lv_iload C.1 C.2.1 dX15_make_522 (lv_at hl 4 rfl) ?_
      obtain ⟨o_3, eo_3, hE⟩ := cl_e hE
      refine x_kI (o := o_3) (z_runV (As := [.int x8]) (rest := [.ref x4]) C (ct_X15_becomesOthers l X k_x0 eo_3) cw_X15_495 hW hZ k_x0 (by decide) rfl rfl rfl hl.1 (Nat.le_of_ble_eq_true rfl) rfl dX15_make_524 ⟨Nat.le_of_ble_eq_true rfl, Nat.le_of_ble_eq_true rfl⟩ ⟨Nat.le_refl _, Nat.le_refl _⟩) hZ (fun _ _ hW km hZ => ?_)
      replace hkm := hkm.tr km
      replace k_x0 := km.at k_x0 (by decide)
      replace k_x1 := km.at k_x1 (by decide)
      replace k_x4 := km.at k_x4 (by decide)
      refine lv_if_eq (tgt := 534) C.1 C.2.1 dX15_make_527 (by decide) (fun c_4 => ?_) (fun c_4 => ?_)
      · have hE := br_p hE c_4
        refine lv_sipush (v := (200 : Int32)) C.1 C.2.1 dX15_make_534 (by decide) ?_
        refine lv_aload_n C.1 C.2.1 dX15_make_537 rfl (lv_at hl 1 rfl) ?_
        refine gf_X15_449 C hW k_x1 dX15_make_538 ?_
        refine lv_iconst (v := (1 : Int32)) C.1 C.2.1 dX15_make_541 (by decide) ?_
        refine lv_iadd C.1 C.2.1 dX15_make_542 ?_
        refine va_mmin C.1 C.2.1 (C.2.2.1.trans hl.1.symm) C.2.2.2.1 (C.2.2.2.2.1 _ m_2579) (C.2.2.2.2.1 _ m_1340) (C.2.2.2.2.1 _ m_3) (C.2.2.2.2.1 _ m_1341) (Nat.le_of_ble_eq_true rfl) (Nat.le_of_ble_eq_true rfl) (Nat.le_refl _) (Nat.le_refl _) dX15_make_543 ?_
        exact bX15_make_546 C k_x0 k_x4 k_x4 hkm hW hZ _ (lv_sub hl [0, 2, 3] rfl) hE
      · have hE := br_n hE c_4
        exact bX15_make_530 C k_x0 k_x4 k_x4 hkm hW hZ _ (lv_sub hl [0, 2, 3] rfl) hE
set_option maxRecDepth 20000 in
theorem bX15_make_415 {p : Program} {l : Launch} {e : Env} {s : State} {m : MethodId} {args : Array Value} {below : List Frame} {meth : Method} {c : Code} {X : Ec} {h0 : Hp} {o : Hp} {F : Nat} (C : Cx X p s m args meth c RX15 cX15_make 15 none "make") : ∀ (f : Nat) {h : Hp} {x0 : Nat} {x1 : Nat} {x4 : Nat} {x5 : Int32} {x6 : Int32} {x7 : Int32} {x8 : Int32} {x9 : Int32} {x10 : Int32} {x11 : Int32} {x12 : Int32} {H : Heap} {locs : List Loc} (k_x0 : hK h x0 = 15) (k_x1 : hK h x1 = 12) (k_x4 : hK h x4 = 12), Km h0 h → Wx X h H → va_S (aA (eB X)) s.heap H locs → ∀ (ls : Array Slot), lv_has ls 15 [(0, .ref x0), (1, .ref x1), (4, .ref x4), (5, .int x5), (6, .int x6), (7, .int x7), (8, .int x8), (9, .int x9), (10, .int x10), (11, .int x11), (12, .int x12)] → sX15_make_415 F f h x0 x1 x4 x5 x6 x7 x8 x9 x10 x11 x12 = some o → W p l e (rm 4 106) s m args below meth c H locs 0 0 (MQ below (QV X h0 o) args s 0 0 (aA (eB X))) (F0 m 415 ls []) := by
  intro f
  induction f with
  | zero =>
    intro h x0 x1 x4 x5 x6 x7 x8 x9 x10 x11 x12 H locs k_x0 k_x1 k_x4 hkm hW hZ ls hl hE
    rw [sX15_make_415] at hE
    cases hE
  | succ f ih =>
    intro h x0 x1 x4 x5 x6 x7 x8 x9 x10 x11 x12 H locs k_x0 k_x1 k_x4 hkm hW hZ ls hl hE
    rw [sX15_make_415] at hE
    have hk_415 : ∀ (h : Hp) (x0 : Nat) (x1 : Nat) (x4 : Nat) (x5 : Int32) (x6 : Int32) (x7 : Int32) (x8 : Int32) (x9 : Int32) (x10 : Int32) (x11 : Int32) (x12 : Int32) (H : Heap) (locs : List Loc), hK h x0 = 15 → hK h x1 = 12 → hK h x4 = 12 → Km h0 h → Wx X h H → va_S (aA (eB X)) s.heap H locs → ∀ (ls : Array Slot), lv_has ls 15 [(0, .ref x0), (1, .ref x1), (4, .ref x4), (5, .int x5), (6, .int x6), (7, .int x7), (8, .int x8), (9, .int x9), (10, .int x10), (11, .int x11), (12, .int x12)] → sX15_make_415 F f h x0 x1 x4 x5 x6 x7 x8 x9 x10 x11 x12 = some o → W p l e (rm 4 106) s m args below meth c H locs 0 0 (MQ below (QV X h0 o) args s 0 0 (aA (eB X))) (F0 m 415 ls []) := fun h x0 x1 x4 x5 x6 x7 x8 x9 x10 x11 x12 H locs k_x0 k_x1 k_x4 a b c ls hl hE => ih k_x0 k_x1 k_x4 a b c ls hl hE
    refine lv_iload C.1 C.2.1 dX15_make_415 (lv_at hl 10 rfl) ?_
    refine lv_iload C.1 C.2.1 dX15_make_417 (lv_at hl 9 rfl) ?_
    refine lv_icmp_ge (tgt := 508) C.1 C.2.1 dX15_make_419 (by decide) (fun c_1 => ?_) (fun c_1 => ?_)
    · have hE := br_p hE c_1
      exact bX15_make_508 C k_x0 k_x1 k_x4 hkm hW hZ _ (lv_sub hl [0, 1, 2, 3, 6, 7, 8] rfl) hE
    · have hE := br_n hE c_1
      refine lv_iload C.1 C.2.1 dX15_make_422 (lv_at hl 4 rfl) ?_
      refine lv_aload_n C.1 C.2.1 dX15_make_424 rfl (lv_at hl 0 rfl) ?_
      refine gf_X15_382 C hW k_x0 dX15_make_425 ?_
      obtain ⟨g_2, hE⟩ := gd_e hE
      refine lv_irem C.1 C.2.1 dX15_make_428 g_2 ?_
      refine lv_iload C.1 C.2.1 dX15_make_429 (lv_at hl 5 rfl) ?_
      refine lv_aload_n C.1 C.2.1 dX15_make_431 rfl (lv_at hl 0 rfl) ?_
      refine gf_X15_382 C hW k_x0 dX15_make_432 ?_
      obtain ⟨g_3, hE⟩ := gd_e hE
      refine lv_irem C.1 C.2.1 dX15_make_435 g_3 ?_
      refine lv_iload C.1 C.2.1 dX15_make_436 (lv_at hl 4 rfl) ?_
      refine lv_aload_n C.1 C.2.1 dX15_make_438 rfl (lv_at hl 0 rfl) ?_
      refine gf_X15_382 C hW k_x0 dX15_make_439 ?_
      obtain ⟨g_4, hE⟩ := gd_e hE
      refine lv_irem C.1 C.2.1 dX15_make_442 g_4 ?_
      refine lv_isub C.1 C.2.1 dX15_make_443 ?_
      refine lv_iload C.1 C.2.1 dX15_make_444 (lv_at hl 9 rfl) ?_
      obtain ⟨g_5, hE⟩ := gd_e hE
      refine lv_idiv C.1 C.2.1 dX15_make_446 g_5 ?_
      refine lv_iload C.1 C.2.1 dX15_make_447 (lv_at hl 10 rfl) ?_
      refine lv_imul C.1 C.2.1 dX15_make_449 ?_
      refine lv_iadd C.1 C.2.1 dX15_make_450 ?_
      obtain ⟨v_6, ev_6, hE⟩ := nm_e2 hE
      refine x_nmI ev_6 ?_
      refine lv_istore (lv' := [(13, .int v_6), (0, .ref x0), (1, .ref x1), (4, .ref x4), (5, .int x5), (6, .int x6), (7, .int x7), (8, .int x8), (9, .int x9), (10, .int x10), (11, .int x11), (12, .int x12)]) C.1 C.2.1 dX15_make_451 hl (by decide) rfl (fun ls hl => ?_)
      refine lv_iload C.1 C.2.1 dX15_make_453 (lv_at hl 5 rfl) ?_
      refine lv_aload_n C.1 C.2.1 dX15_make_455 rfl (lv_at hl 1 rfl) ?_
      refine gf_X15_382 C hW k_x0 dX15_make_456 ?_
      obtain ⟨g_7, hE⟩ := gd_e hE
      refine lv_idiv C.1 C.2.1 dX15_make_459 g_7 ?_
      refine lv_iload C.1 C.2.1 dX15_make_460 (lv_at hl 6 rfl) ?_
      refine lv_aload_n C.1 C.2.1 dX15_make_462 rfl (lv_at hl 1 rfl) ?_
      refine gf_X15_382 C hW k_x0 dX15_make_463 ?_
      obtain ⟨g_8, hE⟩ := gd_e hE
      refine lv_idiv C.1 C.2.1 dX15_make_466 g_8 ?_
      refine lv_iload C.1 C.2.1 dX15_make_467 (lv_at hl 5 rfl) ?_
      refine lv_aload_n C.1 C.2.1 dX15_make_469 rfl (lv_at hl 1 rfl) ?_
      refine gf_X15_382 C hW k_x0 dX15_make_470 ?_
      obtain ⟨g_9, hE⟩ := gd_e hE
      refine lv_idiv C.1 C.2.1 dX15_make_473 g_9 ?_
      refine lv_isub C.1 C.2.1 dX15_make_474 ?_
      refine lv_iload C.1 C.2.1 dX15_make_475 (lv_at hl 10 rfl) ?_
      obtain ⟨g_10, hE⟩ := gd_e hE
      refine lv_idiv C.1 C.2.1 dX15_make_477 g_10 ?_
      refine lv_iload C.1 C.2.1 dX15_make_478 (lv_at hl 11 rfl) ?_
      refine lv_imul C.1 C.2.1 dX15_make_480 ?_
      refine lv_iadd C.1 C.2.1 dX15_make_481 ?_
      obtain ⟨v_11, ev_11, hE⟩ := nm_e2 hE
      refine x_nmI ev_11 ?_
      refine lv_istore (lv' := [(14, .int v_11), (13, .int v_6), (0, .ref x0), (1, .ref x1), (4, .ref x4), (5, .int x5), (6, .int x6), (7, .int x7), (8, .int x8), (9, .int x9), (10, .int x10), (11, .int x11), (12, .int x12)]) C.1 C.2.1 dX15_make_482 hl (by decide) rfl (fun ls hl => ?_)
      refine lv_aload C.1 C.2.1 dX15_make_484 (lv_at hl 4 rfl) ?_
      obtain ⟨r_12, er_12, hE⟩ := cl_e hE
      refine gf_X15_439 C hW k_x4 er_12 dX15_make_486 (fun k_r_12 => ?_)
      refine lv_iload C.1 C.2.1 dX15_make_489 (lv_at hl 12 rfl) ?_
      refine lv_iload C.1 C.2.1 dX15_make_491 (lv_at hl 0 rfl) ?_
      refine lv_aload_n C.1 C.2.1 dX15_make_493 rfl (lv_at hl 2 rfl) ?_
      refine gf_X15_382 C hW k_x0 dX15_make_494 ?_
      refine lv_imul C.1 C.2.1 dX15_make_497 ?_
      refine lv_iload C.1 C.2.1 dX15_make_498 (lv_at hl 1 rfl) ?_
      refine lv_iadd C.1 C.2.1 dX15_make_500 ?_
      obtain ⟨g_13, hE⟩ := gd_e hE
      obtain ⟨h_14, eh_14, hE⟩ := nm_e2 hE
      refine y_iast C hW hZ k_r_12 g_13 eh_14 dX15_make_501 (fun _ _ hW km hZ => ?_)
      replace hkm := hkm.tr km
      replace k_x0 := km.at k_x0 (by decide)
      replace k_x1 := km.at k_x1 (by decide)
      replace k_x4 := km.at k_x4 (by decide)
      obtain ⟨v_15, ev_15, hE⟩ := nm_e2 hE
      refine lv_iinc (v := v_15) (lv' := [(12, .int v_15), (14, .int v_11), (13, .int v_6), (0, .ref x0), (1, .ref x1), (4, .ref x4), (5, .int x5), (6, .int x6), (7, .int x7), (8, .int x8), (9, .int x9), (10, .int x10), (11, .int x11)]) C.1 C.2.1 dX15_make_502 hl (k := 12) rfl (by rw [ev_15]; rfl) (by decide) rfl (fun ls hl => ?_)
      refine lv_goto (tgt := 415) C.1 C.2.1 dX15_make_505 (by decide) ?_
      exact hk_415 _ _ _ _ _ _ _ _ _ _ _ _ _ _ k_x0 k_x1 k_x4 hkm hW hZ _ (lv_sub hl [3, 4, 5, 6, 7, 8, 9, 10, 11, 12, 0] rfl) hE
set_option maxRecDepth 20000 in
theorem bX15_make_365 {p : Program} {l : Launch} {e : Env} {s : State} {m : MethodId} {args : Array Value} {below : List Frame} {meth : Method} {c : Code} {X : Ec} {h0 : Hp} {o : Hp} {F : Nat} (C : Cx X p s m args meth c RX15 cX15_make 15 none "make") {h : Hp} {x0 : Nat} {x1 : Nat} {x2 : Nat} {x3 : Int32} {x4 : Nat} {x5 : Int32} {x6 : Int32} {x7 : Int32} {x8 : Int32} {x9 : Int32} {x10 : Int32} {H : Heap} {locs : List Loc} (k_x0 : hK h x0 = 15) (k_x1 : hK h x1 = 12) (k_x2 : hK h x2 = 13) (k_x4 : hK h x4 = 12) (hkm : Km h0 h) (hW : Wx X h H) (hZ : va_S (aA (eB X)) s.heap H locs) (ls : Array Slot) (hl : lv_has ls 15 [(0, .ref x0), (1, .ref x1), (2, .ref x2), (3, .int x3), (4, .ref x4), (5, .int x5), (6, .int x6), (7, .int x7), (8, .int x8), (9, .int x9), (10, .int x10)]) (hE : sX15_make_365 F h x0 x1 x2 x3 x4 x5 x6 x7 x8 x9 x10 = some o) : W p l e (rm 4 106) s m args below meth c H locs 0 0 (MQ below (QV X h0 o) args s 0 0 (aA (eB X))) (F0 m 365 ls []) := by
  refine lv_aload_n C.1 C.2.1 dX15_make_365 rfl (lv_at hl 2 rfl) ?_
  obtain ⟨r_1, er_1, hE⟩ := cl_e hE
  refine gf_X15_602 C hW k_x2 er_1 dX15_make_366 (fun k_r_1 => ?_)
  refine lv_iload_n C.1 C.2.1 dX15_make_369 rfl (lv_at hl 3 rfl) ?_
  obtain ⟨g_2, hE⟩ := gd_e hE
  refine y_iald C hW k_r_1 g_2 dX15_make_370 ?_
  refine lv_iconst (v := (2 : Int32)) C.1 C.2.1 dX15_make_371 (by decide) ?_
  refine lv_icmp_ge (tgt := 508) C.1 C.2.1 dX15_make_372 (by decide) (fun c_3 => ?_) (fun c_3 => ?_)
  · have hE := br_p hE c_3
    exact bX15_make_508 C k_x0 k_x1 k_x4 hkm hW hZ _ (lv_sub hl [0, 1, 4, 5, 8, 9, 10] rfl) hE
  · have hE := br_n hE c_3
    refine lv_aload_n C.1 C.2.1 dX15_make_375 rfl (lv_at hl 2 rfl) ?_
    obtain ⟨r_4, er_4, hE⟩ := cl_e hE
    refine gf_X15_619 C hW k_x2 er_4 dX15_make_376 (fun k_r_4 => ?_)
    refine lv_iload_n C.1 C.2.1 dX15_make_379 rfl (lv_at hl 3 rfl) ?_
    obtain ⟨g_5, hE⟩ := gd_e hE
    refine y_iald C hW k_r_4 g_5 dX15_make_380 ?_
    refine lv_if_le (tgt := 508) C.1 C.2.1 dX15_make_381 (by decide) (fun c_6 => ?_) (fun c_6 => ?_)
    · have hE := br_p hE c_6
      exact bX15_make_508 C k_x0 k_x1 k_x4 hkm hW hZ _ (lv_sub hl [0, 1, 4, 5, 8, 9, 10] rfl) hE
    · have hE := br_n hE c_6
      refine lv_aload C.1 C.2.1 dX15_make_384 (lv_at hl 4 rfl) ?_
      refine lv_aload_n C.1 C.2.1 dX15_make_386 rfl (lv_at hl 2 rfl) ?_
      obtain ⟨r_7, er_7, hE⟩ := cl_e hE
      refine gf_X15_619 C hW k_x2 er_7 dX15_make_387 (fun k_r_7 => ?_)
      refine lv_iload_n C.1 C.2.1 dX15_make_390 rfl (lv_at hl 3 rfl) ?_
      obtain ⟨g_8, hE⟩ := gd_e hE
      refine y_iald C hW k_r_7 g_8 dX15_make_391 ?_
      obtain ⟨h_9, eh_9, hE⟩ := nm_e2 hE
      refine pf_X15_441 C hW hZ k_x4 eh_9 dX15_make_392 (fun _ _ hW km hZ => ?_)
      replace hkm := hkm.tr km
      replace k_x0 := km.at k_x0 (by decide)
      replace k_x1 := km.at k_x1 (by decide)
      replace k_x2 := km.at k_x2 (by decide)
      replace k_x4 := km.at k_x4 (by decide)
      refine lv_aload C.1 C.2.1 dX15_make_395 (lv_at hl 4 rfl) ?_
      obtain ⟨r_10, er_10, hE⟩ := cl_e hE
      refine gf_X15_439 C hW k_x4 er_10 dX15_make_397 (fun k_r_10 => ?_)
      refine lv_iconst (v := (0 : Int32)) C.1 C.2.1 dX15_make_400 (by decide) ?_
      refine lv_iload C.1 C.2.1 dX15_make_401 (lv_at hl 7 rfl) ?_
      obtain ⟨g_11, hE⟩ := gd_e hE
      obtain ⟨h_12, eh_12, hE⟩ := nm_e2 hE
      refine y_iast C hW hZ k_r_10 g_11 eh_12 dX15_make_403 (fun _ _ hW km hZ => ?_)
      replace hkm := hkm.tr km
      replace k_x0 := km.at k_x0 (by decide)
      replace k_x1 := km.at k_x1 (by decide)
      replace k_x2 := km.at k_x2 (by decide)
      replace k_x4 := km.at k_x4 (by decide)
      refine lv_aload_n C.1 C.2.1 dX15_make_404 rfl (lv_at hl 2 rfl) ?_
      obtain ⟨r_13, er_13, hE⟩ := cl_e hE
      refine gf_X15_619 C hW k_x2 er_13 dX15_make_405 (fun k_r_13 => ?_)
      refine lv_iload_n C.1 C.2.1 dX15_make_408 rfl (lv_at hl 3 rfl) ?_
      obtain ⟨g_14, hE⟩ := gd_e hE
      refine y_iald C hW k_r_13 g_14 dX15_make_409 ?_
      obtain ⟨v_15, ev_15, hE⟩ := nm_e2 hE
      refine x_nmI ev_15 ?_
      refine lv_istore (lv' := [(11, .int v_15), (0, .ref x0), (1, .ref x1), (2, .ref x2), (3, .int x3), (4, .ref x4), (5, .int x5), (6, .int x6), (7, .int x7), (8, .int x8), (9, .int x9), (10, .int x10)]) C.1 C.2.1 dX15_make_410 hl (by decide) rfl (fun ls hl => ?_)
      refine lv_iconst (v := (1 : Int32)) C.1 C.2.1 dX15_make_412 (by decide) ?_
      refine lv_istore (lv' := [(12, .int (1 : Int32)), (11, .int v_15), (0, .ref x0), (1, .ref x1), (2, .ref x2), (3, .int x3), (4, .ref x4), (5, .int x5), (6, .int x6), (7, .int x7), (8, .int x8), (9, .int x9), (10, .int x10)]) C.1 C.2.1 dX15_make_413 hl (by decide) rfl (fun ls hl => ?_)
      exact bX15_make_415 C F k_x0 k_x1 k_x4 hkm hW hZ _ (lv_sub hl [2, 3, 6, 7, 8, 9, 10, 11, 12, 1, 0] rfl) hE
set_option maxRecDepth 20000 in
theorem bX15_make_339 {p : Program} {l : Launch} {e : Env} {s : State} {m : MethodId} {args : Array Value} {below : List Frame} {meth : Method} {c : Code} {X : Ec} {h0 : Hp} {o : Hp} {F : Nat} (C : Cx X p s m args meth c RX15 cX15_make 15 none "make") {h : Hp} {x0 : Nat} {x1 : Nat} {x2 : Nat} {x3 : Int32} {x4 : Nat} {x5 : Int32} {x6 : Int32} {x7 : Int32} {x8 : Int32} {x9 : Int32} {x10 : Int32} {H : Heap} {locs : List Loc} (k_x0 : hK h x0 = 15) (k_x1 : hK h x1 = 12) (k_x2 : hK h x2 = 13) (k_x4 : hK h x4 = 12) (hkm : Km h0 h) (hW : Wx X h H) (hZ : va_S (aA (eB X)) s.heap H locs) (ls : Array Slot) (hl : lv_has ls 15 [(0, .ref x0), (1, .ref x1), (2, .ref x2), (3, .int x3), (4, .ref x4), (5, .int x5), (6, .int x6), (7, .int x7), (8, .int x8), (9, .int x9), (10, .int x10)]) (hE : sX15_make_339 F h x0 x1 x2 x3 x4 x5 x6 x7 x8 x9 x10 = some o) : W p l e (rm 4 106) s m args below meth c H locs 0 0 (MQ below (QV X h0 o) args s 0 0 (aA (eB X))) (F0 m 339 ls []) := by
  refine lv_iload C.1 C.2.1 dX15_make_339 (lv_at hl 10 rfl) ?_
  refine lv_if_eq (tgt := 365) C.1 C.2.1 dX15_make_341 (by decide) (fun c_1 => ?_) (fun c_1 => ?_)
  · have hE := br_p hE c_1
    exact bX15_make_365 C k_x0 k_x1 k_x2 k_x4 hkm hW hZ _ (lv_sub hl [0, 1, 2, 3, 4, 5, 6, 7, 8, 9, 10] rfl) hE
  · have hE := br_n hE c_1
    refine lv_aload_n C.1 C.2.1 dX15_make_344 rfl (lv_at hl 0 rfl) ?_
    obtain ⟨r_2, er_2, hE⟩ := cl_e hE
    refine gf_X15_252 C hW k_x0 er_2 dX15_make_345 (fun k_r_2 => ?_)
    refine gf_X15_142 C hW k_r_2 dX15_make_348 ?_
    refine lv_if_eq (tgt := 365) C.1 C.2.1 dX15_make_351 (by decide) (fun c_3 => ?_) (fun c_3 => ?_)
    · have hE := br_p hE c_3
      exact bX15_make_365 C k_x0 k_x1 k_x2 k_x4 hkm hW hZ _ (lv_sub hl [0, 1, 2, 3, 4, 5, 6, 7, 8, 9, 10] rfl) hE
    · have hE := br_n hE c_3
      refine lv_aload_n C.1 C.2.1 dX15_make_354 rfl (lv_at hl 0 rfl) ?_
      refine lv_aload C.1 C.2.1 dX15_make_355 (lv_at hl 4 rfl) ?_
      refine lv_iload C.1 C.2.1 dX15_make_357 (lv_at hl 7 rfl) ?_
      obtain ⟨o_4, eo_4, hE⟩ := cl_e hE
      refine x_kV (o := o_4) (z_runV (As := [.ref x4, .int x7]) (rest := []) C (ct_X15_blast l X F k_x0 k_x4 eo_4) cw_X15_622 hW hZ k_x0 (by decide) rfl rfl rfl hl.1 (Nat.le_of_ble_eq_true rfl) rfl dX15_make_359 ⟨Nat.le_of_ble_eq_true rfl, Nat.le_of_ble_eq_true rfl⟩ ⟨Nat.le_refl _, Nat.le_refl _⟩) hZ (fun _ _ hW km hZ => ?_)
      replace hkm := hkm.tr km
      replace k_x0 := km.at k_x0 (by decide)
      replace k_x1 := km.at k_x1 (by decide)
      replace k_x2 := km.at k_x2 (by decide)
      replace k_x4 := km.at k_x4 (by decide)
      refine lv_goto (tgt := 508) C.1 C.2.1 dX15_make_362 (by decide) ?_
      exact bX15_make_508 C k_x0 k_x1 k_x4 hkm hW hZ _ (lv_sub hl [0, 1, 4, 5, 8, 9, 10] rfl) hE
set_option maxRecDepth 20000 in
theorem bX15_make_333 {p : Program} {l : Launch} {e : Env} {s : State} {m : MethodId} {args : Array Value} {below : List Frame} {meth : Method} {c : Code} {X : Ec} {h0 : Hp} {o : Hp} {k_294 : Hp → Nat → Nat → Nat → Int32 → Nat → Int32 → Int32 → Int32 → Int32 → Int32 → Int32 → Int32 → Option (Hp)} {F : Nat} (C : Cx X p s m args meth c RX15 cX15_make 15 none "make") (hk_294 : ∀ (h : Hp) (x0 : Nat) (x1 : Nat) (x2 : Nat) (x3 : Int32) (x4 : Nat) (x5 : Int32) (x6 : Int32) (x7 : Int32) (x8 : Int32) (x9 : Int32) (x10 : Int32) (x11 : Int32) (H : Heap) (locs : List Loc), hK h x0 = 15 → hK h x1 = 12 → hK h x2 = 13 → hK h x4 = 12 → Km h0 h → Wx X h H → va_S (aA (eB X)) s.heap H locs → ∀ (ls : Array Slot), lv_has ls 15 [(0, .ref x0), (1, .ref x1), (2, .ref x2), (3, .int x3), (4, .ref x4), (5, .int x5), (6, .int x6), (7, .int x7), (8, .int x8), (9, .int x9), (10, .int x10), (11, .int x11)] → k_294 h x0 x1 x2 x3 x4 x5 x6 x7 x8 x9 x10 x11 = some o → W p l e (rm 4 106) s m args below meth c H locs 0 0 (MQ below (QV X h0 o) args s 0 0 (aA (eB X))) (F0 m 294 ls [])) {h : Hp} {x0 : Nat} {x1 : Nat} {x2 : Nat} {x3 : Int32} {x4 : Nat} {x5 : Int32} {x6 : Int32} {x7 : Int32} {x8 : Int32} {x9 : Int32} {x10 : Int32} {x11 : Int32} {H : Heap} {locs : List Loc} (k_x0 : hK h x0 = 15) (k_x1 : hK h x1 = 12) (k_x2 : hK h x2 = 13) (k_x4 : hK h x4 = 12) (hkm : Km h0 h) (hW : Wx X h H) (hZ : va_S (aA (eB X)) s.heap H locs) (ls : Array Slot) (hl : lv_has ls 15 [(0, .ref x0), (1, .ref x1), (2, .ref x2), (3, .int x3), (4, .ref x4), (5, .int x5), (6, .int x6), (7, .int x7), (8, .int x8), (9, .int x9), (10, .int x10), (11, .int x11)]) (hE : sX15_make_333 F k_294 h x0 x1 x2 x3 x4 x5 x6 x7 x8 x9 x10 x11 = some o) : W p l e (rm 4 106) s m args below meth c H locs 0 0 (MQ below (QV X h0 o) args s 0 0 (aA (eB X))) (F0 m 333 ls []) := by
  obtain ⟨v_1, ev_1, hE⟩ := nm_e2 hE
  refine lv_iinc (v := v_1) (lv' := [(11, .int v_1), (0, .ref x0), (1, .ref x1), (2, .ref x2), (3, .int x3), (4, .ref x4), (5, .int x5), (6, .int x6), (7, .int x7), (8, .int x8), (9, .int x9), (10, .int x10)]) C.1 C.2.1 dX15_make_333 hl (k := 11) rfl (by rw [ev_1]; rfl) (by decide) rfl (fun ls hl => ?_)
  refine lv_goto (tgt := 294) C.1 C.2.1 dX15_make_336 (by decide) ?_
  exact hk_294 _ _ _ _ _ _ _ _ _ _ _ _ _ _ _ k_x0 k_x1 k_x2 k_x4 hkm hW hZ _ (lv_sub hl [1, 2, 3, 4, 5, 6, 7, 8, 9, 10, 11, 0] rfl) hE
set_option maxRecDepth 20000 in
theorem bX15_make_294 {p : Program} {l : Launch} {e : Env} {s : State} {m : MethodId} {args : Array Value} {below : List Frame} {meth : Method} {c : Code} {X : Ec} {h0 : Hp} {o : Hp} {F : Nat} (C : Cx X p s m args meth c RX15 cX15_make 15 none "make") : ∀ (f : Nat) {h : Hp} {x0 : Nat} {x1 : Nat} {x2 : Nat} {x3 : Int32} {x4 : Nat} {x5 : Int32} {x6 : Int32} {x7 : Int32} {x8 : Int32} {x9 : Int32} {x10 : Int32} {x11 : Int32} {H : Heap} {locs : List Loc} (k_x0 : hK h x0 = 15) (k_x1 : hK h x1 = 12) (k_x2 : hK h x2 = 13) (k_x4 : hK h x4 = 12), Km h0 h → Wx X h H → va_S (aA (eB X)) s.heap H locs → ∀ (ls : Array Slot), lv_has ls 15 [(0, .ref x0), (1, .ref x1), (2, .ref x2), (3, .int x3), (4, .ref x4), (5, .int x5), (6, .int x6), (7, .int x7), (8, .int x8), (9, .int x9), (10, .int x10), (11, .int x11)] → sX15_make_294 F f h x0 x1 x2 x3 x4 x5 x6 x7 x8 x9 x10 x11 = some o → W p l e (rm 4 106) s m args below meth c H locs 0 0 (MQ below (QV X h0 o) args s 0 0 (aA (eB X))) (F0 m 294 ls []) := by
  intro f
  induction f with
  | zero =>
    intro h x0 x1 x2 x3 x4 x5 x6 x7 x8 x9 x10 x11 H locs k_x0 k_x1 k_x2 k_x4 hkm hW hZ ls hl hE
    rw [sX15_make_294] at hE
    cases hE
  | succ f ih =>
    intro h x0 x1 x2 x3 x4 x5 x6 x7 x8 x9 x10 x11 H locs k_x0 k_x1 k_x2 k_x4 hkm hW hZ ls hl hE
    rw [sX15_make_294] at hE
    have hk_294 : ∀ (h : Hp) (x0 : Nat) (x1 : Nat) (x2 : Nat) (x3 : Int32) (x4 : Nat) (x5 : Int32) (x6 : Int32) (x7 : Int32) (x8 : Int32) (x9 : Int32) (x10 : Int32) (x11 : Int32) (H : Heap) (locs : List Loc), hK h x0 = 15 → hK h x1 = 12 → hK h x2 = 13 → hK h x4 = 12 → Km h0 h → Wx X h H → va_S (aA (eB X)) s.heap H locs → ∀ (ls : Array Slot), lv_has ls 15 [(0, .ref x0), (1, .ref x1), (2, .ref x2), (3, .int x3), (4, .ref x4), (5, .int x5), (6, .int x6), (7, .int x7), (8, .int x8), (9, .int x9), (10, .int x10), (11, .int x11)] → sX15_make_294 F f h x0 x1 x2 x3 x4 x5 x6 x7 x8 x9 x10 x11 = some o → W p l e (rm 4 106) s m args below meth c H locs 0 0 (MQ below (QV X h0 o) args s 0 0 (aA (eB X))) (F0 m 294 ls []) := fun h x0 x1 x2 x3 x4 x5 x6 x7 x8 x9 x10 x11 H locs k_x0 k_x1 k_x2 k_x4 a b c ls hl hE => ih k_x0 k_x1 k_x2 k_x4 a b c ls hl hE
    refine lv_iload C.1 C.2.1 dX15_make_294 (lv_at hl 11 rfl) ?_
    refine lv_aload_n C.1 C.2.1 dX15_make_296 rfl (lv_at hl 0 rfl) ?_
    refine gf_X15_384 C hW k_x0 dX15_make_297 ?_
    refine lv_icmp_ge (tgt := 339) C.1 C.2.1 dX15_make_300 (by decide) (fun c_1 => ?_) (fun c_1 => ?_)
    · have hE := br_p hE c_1
      exact bX15_make_339 C k_x0 k_x1 k_x2 k_x4 hkm hW hZ _ (lv_sub hl [0, 1, 2, 3, 4, 5, 6, 7, 8, 9, 10] rfl) hE
    · have hE := br_n hE c_1
      refine lv_aload_n C.1 C.2.1 dX15_make_303 rfl (lv_at hl 0 rfl) ?_
      refine lv_iload C.1 C.2.1 dX15_make_304 (lv_at hl 11 rfl) ?_
      refine lv_iload C.1 C.2.1 dX15_make_306 (lv_at hl 5 rfl) ?_
      obtain ⟨o_2, eo_2, hE⟩ := cl_e hE
      refine x_kI (o := o_2) (z_runV (As := [.int x11, .int x5]) (rest := []) C (ct_X15_rankFor l X k_x0 eo_2) cw_X15_498 hW hZ k_x0 (by decide) rfl rfl rfl hl.1 (Nat.le_of_ble_eq_true rfl) rfl dX15_make_308 ⟨Nat.le_of_ble_eq_true rfl, Nat.le_of_ble_eq_true rfl⟩ ⟨Nat.le_refl _, Nat.le_refl _⟩) hZ (fun _ _ hW km hZ => ?_)
      replace hkm := hkm.tr km
      replace k_x0 := km.at k_x0 (by decide)
      replace k_x1 := km.at k_x1 (by decide)
      replace k_x2 := km.at k_x2 (by decide)
      replace k_x4 := km.at k_x4 (by decide)
      refine lv_iconst (v := (1 : Int32)) C.1 C.2.1 dX15_make_311 (by decide) ?_
      refine lv_icmp_ne (tgt := 333) C.1 C.2.1 dX15_make_312 (by decide) (fun c_3 => ?_) (fun c_3 => ?_)
      · have hE := br_n hE c_3
        exact bX15_make_333 C hk_294 k_x0 k_x1 k_x2 k_x4 hkm hW hZ _ (lv_sub hl [0, 1, 2, 3, 4, 5, 6, 7, 8, 9, 10, 11] rfl) hE
      · have hE := br_p hE c_3
        refine lv_aload C.1 C.2.1 dX15_make_315 (lv_at hl 4 rfl) ?_
        refine lv_dup C.1 C.2.1 dX15_make_317 rfl ?_
        refine gf_X15_436 C hW k_x4 dX15_make_318 ?_
        refine lv_lconst (v := (1 : Int64)) C.1 C.2.1 dX15_make_321 (by decide) ?_
        refine lv_iload C.1 C.2.1 dX15_make_322 (lv_at hl 11 rfl) ?_
        refine lv_lshl C.1 C.2.1 dX15_make_324 rfl ?_
        refine lv_ldc2 (v := (-1 : Int64)) C.1 C.2.1 C.2.2.2.1 (C.2.2.2.2.1 _ m_2479) dX15_make_325 ?_
        refine lv_lxor C.1 C.2.1 dX15_make_328 ?_
        refine lv_land C.1 C.2.1 dX15_make_329 ?_
        obtain ⟨h_4, eh_4, hE⟩ := nm_e2 hE
        refine pf_X15_436 C hW hZ k_x4 eh_4 dX15_make_330 (fun _ _ hW km hZ => ?_)
        replace hkm := hkm.tr km
        replace k_x0 := km.at k_x0 (by decide)
        replace k_x1 := km.at k_x1 (by decide)
        replace k_x2 := km.at k_x2 (by decide)
        replace k_x4 := km.at k_x4 (by decide)
        exact bX15_make_333 C hk_294 k_x0 k_x1 k_x2 k_x4 hkm hW hZ _ (lv_sub hl [0, 1, 2, 3, 4, 5, 6, 7, 8, 9, 10, 11] rfl) hE
set_option maxRecDepth 20000 in
theorem bX15_make_273 {p : Program} {l : Launch} {e : Env} {s : State} {m : MethodId} {args : Array Value} {below : List Frame} {meth : Method} {c : Code} {X : Ec} {h0 : Hp} {o : Hp} {F : Nat} (C : Cx X p s m args meth c RX15 cX15_make 15 none "make") {h : Hp} {x0 : Nat} {x1 : Nat} {x2 : Nat} {x3 : Int32} {x4 : Nat} {x5 : Int32} {x6 : Int32} {x7 : Int32} {x8 : Int32} {x9 : Int32} {x10 : Int32} {H : Heap} {locs : List Loc} (k_x0 : hK h x0 = 15) (k_x1 : hK h x1 = 12) (k_x2 : hK h x2 = 13) (k_x4 : hK h x4 = 12) (hkm : Km h0 h) (hW : Wx X h H) (hZ : va_S (aA (eB X)) s.heap H locs) (ls : Array Slot) (hl : lv_has ls 15 [(0, .ref x0), (1, .ref x1), (2, .ref x2), (3, .int x3), (4, .ref x4), (5, .int x5), (6, .int x6), (7, .int x7), (8, .int x8), (9, .int x9), (10, .int x10)]) (hE : sX15_make_273 F h x0 x1 x2 x3 x4 x5 x6 x7 x8 x9 x10 = some o) : W p l e (rm 4 106) s m args below meth c H locs 0 0 (MQ below (QV X h0 o) args s 0 0 (aA (eB X))) (F0 m 273 ls []) := by
  refine lv_iload C.1 C.2.1 dX15_make_273 (lv_at hl 9 rfl) ?_
  refine lv_iconst (v := (3 : Int32)) C.1 C.2.1 dX15_make_275 (by decide) ?_
  refine lv_icmp_eq (tgt := 339) C.1 C.2.1 dX15_make_276 (by decide) (fun c_1 => ?_) (fun c_1 => ?_)
  · have hE := br_p hE c_1
    exact bX15_make_339 C k_x0 k_x1 k_x2 k_x4 hkm hW hZ _ (lv_sub hl [0, 1, 2, 3, 4, 5, 6, 7, 8, 9, 10] rfl) hE
  · have hE := br_n hE c_1
    refine lv_iload C.1 C.2.1 dX15_make_279 (lv_at hl 8 rfl) ?_
    refine lv_aload_n C.1 C.2.1 dX15_make_281 rfl (lv_at hl 0 rfl) ?_
    obtain ⟨r_2, er_2, hE⟩ := cl_e hE
    refine gf_X15_252 C hW k_x0 er_2 dX15_make_282 (fun k_r_2 => ?_)
    refine gf_X15_221 C hW k_r_2 dX15_make_285 ?_
    refine lv_icmp_ne (tgt := 339) C.1 C.2.1 dX15_make_288 (by decide) (fun c_3 => ?_) (fun c_3 => ?_)
    · have hE := br_n hE c_3
      exact bX15_make_339 C k_x0 k_x1 k_x2 k_x4 hkm hW hZ _ (lv_sub hl [0, 1, 2, 3, 4, 5, 6, 7, 8, 9, 10] rfl) hE
    · have hE := br_p hE c_3
      refine lv_iconst (v := (0 : Int32)) C.1 C.2.1 dX15_make_291 (by decide) ?_
      refine lv_istore (lv' := [(11, .int (0 : Int32)), (0, .ref x0), (1, .ref x1), (2, .ref x2), (3, .int x3), (4, .ref x4), (5, .int x5), (6, .int x6), (7, .int x7), (8, .int x8), (9, .int x9), (10, .int x10)]) C.1 C.2.1 dX15_make_292 hl (by decide) rfl (fun ls hl => ?_)
      exact bX15_make_294 C F k_x0 k_x1 k_x2 k_x4 hkm hW hZ _ (lv_sub hl [1, 2, 3, 4, 5, 6, 7, 8, 9, 10, 11, 0] rfl) hE
set_option maxRecDepth 20000 in
theorem bX15_make_219 {p : Program} {l : Launch} {e : Env} {s : State} {m : MethodId} {args : Array Value} {below : List Frame} {meth : Method} {c : Code} {X : Ec} {h0 : Hp} {o : Hp} {F : Nat} (C : Cx X p s m args meth c RX15 cX15_make 15 none "make") {h : Hp} {x0 : Nat} {x1 : Nat} {x2 : Nat} {x3 : Int32} {x4 : Nat} {x5 : Int32} {x6 : Int32} {x7 : Int32} {x8 : Int32} {x9 : Int32} {x10 : Int32} {t0 : Int32} {t1 : Int32} {t2 : Nat} {t3 : Nat} {H : Heap} {locs : List Loc} (k_x0 : hK h x0 = 15) (k_x1 : hK h x1 = 12) (k_x2 : hK h x2 = 13) (k_x4 : hK h x4 = 12) (k_t2 : hK h t2 = 12) (k_t3 : hK h t3 = 15) (hkm : Km h0 h) (hW : Wx X h H) (hZ : va_S (aA (eB X)) s.heap H locs) (ls : Array Slot) (hl : lv_has ls 15 [(0, .ref x0), (1, .ref x1), (2, .ref x2), (3, .int x3), (4, .ref x4), (5, .int x5), (6, .int x6), (7, .int x7), (8, .int x8), (9, .int x9), (10, .int x10)]) (hE : sX15_make_219 F h x0 x1 x2 x3 x4 x5 x6 x7 x8 x9 x10 t0 t1 t2 t3 = some o) : W p l e (rm 4 106) s m args below meth c H locs 0 0 (MQ below (QV X h0 o) args s 0 0 (aA (eB X))) (F0 m 219 ls [.int t0, .int t1, .ref t2, .ref t3]) := by
  refine lv_iload C.1 C.2.1 dX15_make_219 (lv_at hl 5 rfl) ?_
  obtain ⟨o_1, eo_1, hE⟩ := cl_e hE
  refine x_kI (o := o_1) (z_runS (As := [.int t0, .int x5]) (rest := [.int t1, .ref t2, .ref t3]) C (ct_X15_valueOf l X eo_1) cw_X15_398 hW hZ rfl hl.1 (Nat.le_of_ble_eq_true rfl) rfl dX15_make_221 ⟨Nat.le_of_ble_eq_true rfl, Nat.le_of_ble_eq_true rfl⟩ ⟨Nat.le_refl _, Nat.le_refl _⟩) hZ (fun _ _ hW km hZ => ?_)
  replace hkm := hkm.tr km
  replace k_x0 := km.at k_x0 (by decide)
  replace k_x1 := km.at k_x1 (by decide)
  replace k_x2 := km.at k_x2 (by decide)
  replace k_x4 := km.at k_x4 (by decide)
  replace k_t2 := km.at k_t2 (by decide)
  replace k_t3 := km.at k_t3 (by decide)
  obtain ⟨o_2, eo_2, hE⟩ := cl_e hE
  refine x_kV (o := o_2) (z_runV (As := [.ref t2, .int t1, .int o_1.1]) (rest := []) C (ct_X15_come l X k_t3 k_t2 eo_2) cw_X15_615 hW hZ k_t3 (by decide) rfl rfl rfl hl.1 (Nat.le_of_ble_eq_true rfl) rfl dX15_make_224 ⟨Nat.le_of_ble_eq_true rfl, Nat.le_of_ble_eq_true rfl⟩ ⟨Nat.le_refl _, Nat.le_refl _⟩) hZ (fun _ _ hW km hZ => ?_)
  replace hkm := hkm.tr km
  replace k_x0 := km.at k_x0 (by decide)
  replace k_x1 := km.at k_x1 (by decide)
  replace k_x2 := km.at k_x2 (by decide)
  replace k_x4 := km.at k_x4 (by decide)
  refine lv_iload C.1 C.2.1 dX15_make_227 (lv_at hl 9 rfl) ?_
  refine lv_iconst (v := (2 : Int32)) C.1 C.2.1 dX15_make_229 (by decide) ?_
  refine lv_icmp_ne (tgt := 273) C.1 C.2.1 dX15_make_230 (by decide) (fun c_3 => ?_) (fun c_3 => ?_)
  · have hE := br_n hE c_3
    exact bX15_make_273 C k_x0 k_x1 k_x2 k_x4 hkm hW hZ _ (lv_sub hl [0, 1, 2, 3, 4, 5, 6, 7, 8, 9, 10] rfl) hE
  · have hE := br_p hE c_3
    refine lv_aload_n C.1 C.2.1 dX15_make_233 rfl (lv_at hl 1 rfl) ?_
    obtain ⟨r_4, er_4, hE⟩ := cl_e hE
    refine gf_X15_396 C hW k_x1 er_4 dX15_make_234 (fun k_r_4 => ?_)
    refine lv_aload_n C.1 C.2.1 dX15_make_237 rfl (lv_at hl 2 rfl) ?_
    obtain ⟨r_5, er_5, hE⟩ := cl_e hE
    refine gf_X15_619 C hW k_x2 er_5 dX15_make_238 (fun k_r_5 => ?_)
    refine lv_iload_n C.1 C.2.1 dX15_make_241 rfl (lv_at hl 3 rfl) ?_
    obtain ⟨g_6, hE⟩ := gd_e hE
    refine y_iald C hW k_r_5 g_6 dX15_make_242 ?_
    obtain ⟨g_7, hE⟩ := gd_e hE
    refine y_iald C hW k_r_4 g_7 dX15_make_243 ?_
    obtain ⟨v_8, ev_8, hE⟩ := nm_e2 hE
    refine x_nmI ev_8 ?_
    refine lv_istore (lv' := [(11, .int v_8), (0, .ref x0), (1, .ref x1), (2, .ref x2), (3, .int x3), (4, .ref x4), (5, .int x5), (6, .int x6), (7, .int x7), (8, .int x8), (9, .int x9), (10, .int x10)]) C.1 C.2.1 dX15_make_244 hl (by decide) rfl (fun ls hl => ?_)
    refine lv_aload_n C.1 C.2.1 dX15_make_246 rfl (lv_at hl 1 rfl) ?_
    refine lv_aload C.1 C.2.1 dX15_make_247 (lv_at hl 5 rfl) ?_
    refine lv_aload_n C.1 C.2.1 dX15_make_249 rfl (lv_at hl 3 rfl) ?_
    obtain ⟨r_9, er_9, hE⟩ := cl_e hE
    refine gf_X15_619 C hW k_x2 er_9 dX15_make_250 (fun k_r_9 => ?_)
    refine lv_iload_n C.1 C.2.1 dX15_make_253 rfl (lv_at hl 4 rfl) ?_
    obtain ⟨g_10, hE⟩ := gd_e hE
    refine y_iald C hW k_r_9 g_10 dX15_make_254 ?_
    obtain ⟨o_11, eo_11, hE⟩ := cl_e hE
    refine x_kV (o := o_11) (z_runV (As := [.ref x4, .int (hI o_2 r_9 x3.toNatClampNeg)]) (rest := []) C (ct_X15_leave l X k_x0 k_x4 eo_11) cw_X15_608 hW hZ k_x0 (by decide) rfl rfl rfl hl.1 (Nat.le_of_ble_eq_true rfl) rfl dX15_make_255 ⟨Nat.le_of_ble_eq_true rfl, Nat.le_of_ble_eq_true rfl⟩ ⟨Nat.le_refl _, Nat.le_refl _⟩) hZ (fun _ _ hW km hZ => ?_)
    replace hkm := hkm.tr km
    replace k_x0 := km.at k_x0 (by decide)
    replace k_x1 := km.at k_x1 (by decide)
    replace k_x2 := km.at k_x2 (by decide)
    replace k_x4 := km.at k_x4 (by decide)
    refine lv_aload_n C.1 C.2.1 dX15_make_258 rfl (lv_at hl 1 rfl) ?_
    refine lv_aload C.1 C.2.1 dX15_make_259 (lv_at hl 5 rfl) ?_
    refine lv_iload C.1 C.2.1 dX15_make_261 (lv_at hl 7 rfl) ?_
    refine lv_iload C.1 C.2.1 dX15_make_263 (lv_at hl 8 rfl) ?_
    refine lv_iadd C.1 C.2.1 dX15_make_265 ?_
    refine lv_iconst (v := (2 : Int32)) C.1 C.2.1 dX15_make_266 (by decide) ?_
    refine lv_idiv C.1 C.2.1 dX15_make_267 (by decide) ?_
    refine lv_iload C.1 C.2.1 dX15_make_268 (lv_at hl 0 rfl) ?_
    obtain ⟨o_12, eo_12, hE⟩ := cl_e hE
    refine x_kV (o := o_12) (z_runV (As := [.ref x4, .int ((x6 + x7) / (2 : Int32)), .int v_8]) (rest := []) C (ct_X15_come l X k_x0 k_x4 eo_12) cw_X15_615 hW hZ k_x0 (by decide) rfl rfl rfl hl.1 (Nat.le_of_ble_eq_true rfl) rfl dX15_make_270 ⟨Nat.le_of_ble_eq_true rfl, Nat.le_of_ble_eq_true rfl⟩ ⟨Nat.le_refl _, Nat.le_refl _⟩) hZ (fun _ _ hW km hZ => ?_)
    replace hkm := hkm.tr km
    replace k_x0 := km.at k_x0 (by decide)
    replace k_x1 := km.at k_x1 (by decide)
    replace k_x2 := km.at k_x2 (by decide)
    replace k_x4 := km.at k_x4 (by decide)
    exact bX15_make_273 C k_x0 k_x1 k_x2 k_x4 hkm hW hZ _ (lv_sub hl [1, 2, 3, 4, 5, 6, 7, 8, 9, 10, 11] rfl) hE
set_option maxRecDepth 20000 in
theorem bX15_make_193 {p : Program} {l : Launch} {e : Env} {s : State} {m : MethodId} {args : Array Value} {below : List Frame} {meth : Method} {c : Code} {X : Ec} {h0 : Hp} {o : Hp} {F : Nat} (C : Cx X p s m args meth c RX15 cX15_make 15 none "make") {h : Hp} {x0 : Nat} {x1 : Nat} {x2 : Nat} {x3 : Int32} {x4 : Nat} {x5 : Int32} {x6 : Int32} {x7 : Int32} {x8 : Int32} {x9 : Int32} {x10 : Int32} {H : Heap} {locs : List Loc} (k_x0 : hK h x0 = 15) (k_x1 : hK h x1 = 12) (k_x2 : hK h x2 = 13) (k_x4 : hK h x4 = 12) (hkm : Km h0 h) (hW : Wx X h H) (hZ : va_S (aA (eB X)) s.heap H locs) (ls : Array Slot) (hl : lv_has ls 15 [(0, .ref x0), (1, .ref x1), (2, .ref x2), (3, .int x3), (4, .ref x4), (5, .int x5), (6, .int x6), (7, .int x7), (8, .int x8), (9, .int x9), (10, .int x10)]) (hE : sX15_make_193 F h x0 x1 x2 x3 x4 x5 x6 x7 x8 x9 x10 = some o) : W p l e (rm 4 106) s m args below meth c H locs 0 0 (MQ below (QV X h0 o) args s 0 0 (aA (eB X))) (F0 m 193 ls []) := by
  refine lv_aload_n C.1 C.2.1 dX15_make_193 rfl (lv_at hl 0 rfl) ?_
  refine lv_aload C.1 C.2.1 dX15_make_194 (lv_at hl 4 rfl) ?_
  refine lv_iload C.1 C.2.1 dX15_make_196 (lv_at hl 7 rfl) ?_
  refine lv_aload_n C.1 C.2.1 dX15_make_198 rfl (lv_at hl 2 rfl) ?_
  obtain ⟨r_1, er_1, hE⟩ := cl_e hE
  refine gf_X15_612 C hW k_x2 er_1 dX15_make_199 (fun k_r_1 => ?_)
  refine lv_iload_n C.1 C.2.1 dX15_make_202 rfl (lv_at hl 3 rfl) ?_
  obtain ⟨g_2, hE⟩ := gd_e hE
  refine y_iald C hW k_r_1 g_2 dX15_make_203 ?_
  refine lv_iconst (v := (-1 : Int32)) C.1 C.2.1 dX15_make_204 (by decide) ?_
  refine lv_icmp_ne (tgt := 213) C.1 C.2.1 dX15_make_205 (by decide) (fun c_3 => ?_) (fun c_3 => ?_)
  · have hE := br_n hE c_3
    refine lv_aload_n C.1 C.2.1 dX15_make_213 rfl (lv_at hl 2 rfl) ?_
    obtain ⟨r_4, er_4, hE⟩ := cl_e hE
    refine gf_X15_612 C hW k_x2 er_4 dX15_make_214 (fun k_r_4 => ?_)
    refine lv_iload_n C.1 C.2.1 dX15_make_217 rfl (lv_at hl 3 rfl) ?_
    obtain ⟨g_5, hE⟩ := gd_e hE
    refine y_iald C hW k_r_4 g_5 dX15_make_218 ?_
    exact bX15_make_219 C k_x0 k_x1 k_x2 k_x4 k_x4 k_x0 hkm hW hZ _ (lv_sub hl [0, 1, 2, 3, 4, 5, 6, 7, 8, 9, 10] rfl) hE
  · have hE := br_p hE c_3
    refine lv_iload C.1 C.2.1 dX15_make_208 (lv_at hl 8 rfl) ?_
    refine lv_goto (tgt := 219) C.1 C.2.1 dX15_make_210 (by decide) ?_
    exact bX15_make_219 C k_x0 k_x1 k_x2 k_x4 k_x4 k_x0 hkm hW hZ _ (lv_sub hl [0, 1, 2, 3, 4, 5, 6, 7, 8, 9, 10] rfl) hE
set_option maxRecDepth 20000 in
theorem bX15_make_159 {p : Program} {l : Launch} {e : Env} {s : State} {m : MethodId} {args : Array Value} {below : List Frame} {meth : Method} {c : Code} {X : Ec} {h0 : Hp} {o : Hp} {F : Nat} (C : Cx X p s m args meth c RX15 cX15_make 15 none "make") {h : Hp} {x0 : Nat} {x1 : Nat} {x2 : Nat} {x3 : Int32} {x4 : Nat} {x5 : Int32} {x6 : Int32} {x7 : Int32} {x8 : Int32} {x9 : Int32} {x10 : Int32} {H : Heap} {locs : List Loc} (k_x0 : hK h x0 = 15) (k_x1 : hK h x1 = 12) (k_x2 : hK h x2 = 13) (k_x4 : hK h x4 = 12) (hkm : Km h0 h) (hW : Wx X h H) (hZ : va_S (aA (eB X)) s.heap H locs) (ls : Array Slot) (hl : lv_has ls 15 [(0, .ref x0), (1, .ref x1), (2, .ref x2), (3, .int x3), (4, .ref x4), (5, .int x5), (6, .int x6), (7, .int x7), (8, .int x8), (9, .int x9), (10, .int x10)]) (hE : sX15_make_159 F h x0 x1 x2 x3 x4 x5 x6 x7 x8 x9 x10 = some o) : W p l e (rm 4 106) s m args below meth c H locs 0 0 (MQ below (QV X h0 o) args s 0 0 (aA (eB X))) (F0 m 159 ls []) := by
  refine lv_iload C.1 C.2.1 dX15_make_159 (lv_at hl 9 rfl) ?_
  refine lv_iconst (v := (3 : Int32)) C.1 C.2.1 dX15_make_161 (by decide) ?_
  refine lv_icmp_ne (tgt := 185) C.1 C.2.1 dX15_make_162 (by decide) (fun c_1 => ?_) (fun c_1 => ?_)
  · have hE := br_n hE c_1
    refine lv_aload_n C.1 C.2.1 dX15_make_185 rfl (lv_at hl 0 rfl) ?_
    refine lv_aload C.1 C.2.1 dX15_make_186 (lv_at hl 4 rfl) ?_
    refine lv_iload C.1 C.2.1 dX15_make_188 (lv_at hl 6 rfl) ?_
    obtain ⟨o_2, eo_2, hE⟩ := cl_e hE
    refine x_kV (o := o_2) (z_runV (As := [.ref x4, .int x6]) (rest := []) C (ct_X15_leave l X k_x0 k_x4 eo_2) cw_X15_608 hW hZ k_x0 (by decide) rfl rfl rfl hl.1 (Nat.le_of_ble_eq_true rfl) rfl dX15_make_190 ⟨Nat.le_of_ble_eq_true rfl, Nat.le_of_ble_eq_true rfl⟩ ⟨Nat.le_refl _, Nat.le_refl _⟩) hZ (fun _ _ hW km hZ => ?_)
    replace hkm := hkm.tr km
    replace k_x0 := km.at k_x0 (by decide)
    replace k_x1 := km.at k_x1 (by decide)
    replace k_x2 := km.at k_x2 (by decide)
    replace k_x4 := km.at k_x4 (by decide)
    exact bX15_make_193 C k_x0 k_x1 k_x2 k_x4 hkm hW hZ _ (lv_sub hl [0, 1, 2, 3, 4, 5, 6, 7, 8, 9, 10] rfl) hE
  · have hE := br_p hE c_1
    refine lv_aload C.1 C.2.1 dX15_make_165 (lv_at hl 4 rfl) ?_
    obtain ⟨r_3, er_3, hE⟩ := cl_e hE
    refine gf_X15_444 C hW k_x4 er_3 dX15_make_167 (fun k_r_3 => ?_)
    refine lv_iconst (v := (2 : Int32)) C.1 C.2.1 dX15_make_170 (by decide) ?_
    refine lv_iload C.1 C.2.1 dX15_make_171 (lv_at hl 8 rfl) ?_
    refine lv_imul C.1 C.2.1 dX15_make_173 ?_
    refine lv_iload C.1 C.2.1 dX15_make_174 (lv_at hl 5 rfl) ?_
    refine lv_iadd C.1 C.2.1 dX15_make_176 ?_
    refine lv_dup2_11 C.1 C.2.1 dX15_make_177 rfl rfl ?_
    obtain ⟨g_4, hE⟩ := gd_e hE
    refine y_iald C hW k_r_3 g_4 dX15_make_178 ?_
    refine lv_iconst (v := (1 : Int32)) C.1 C.2.1 dX15_make_179 (by decide) ?_
    refine lv_isub C.1 C.2.1 dX15_make_180 ?_
    obtain ⟨g_5, hE⟩ := gd_e hE
    obtain ⟨h_6, eh_6, hE⟩ := nm_e2 hE
    refine y_iast C hW hZ k_r_3 g_5 eh_6 dX15_make_181 (fun _ _ hW km hZ => ?_)
    replace hkm := hkm.tr km
    replace k_x0 := km.at k_x0 (by decide)
    replace k_x1 := km.at k_x1 (by decide)
    replace k_x2 := km.at k_x2 (by decide)
    replace k_x4 := km.at k_x4 (by decide)
    refine lv_goto (tgt := 193) C.1 C.2.1 dX15_make_182 (by decide) ?_
    exact bX15_make_193 C k_x0 k_x1 k_x2 k_x4 hkm hW hZ _ (lv_sub hl [0, 1, 2, 3, 4, 5, 6, 7, 8, 9, 10] rfl) hE
set_option maxRecDepth 20000 in
theorem bX15_make_92 {p : Program} {l : Launch} {e : Env} {s : State} {m : MethodId} {args : Array Value} {below : List Frame} {meth : Method} {c : Code} {X : Ec} {h0 : Hp} {o : Hp} {F : Nat} (C : Cx X p s m args meth c RX15 cX15_make 15 none "make") {h : Hp} {x0 : Nat} {x1 : Nat} {x2 : Nat} {x3 : Int32} {x4 : Nat} {x5 : Int32} {x6 : Int32} {x7 : Int32} {x8 : Int32} {x9 : Int32} {x10 : Int32} {t0 : Int32} {t1 : Nat} {t2 : Nat} {H : Heap} {locs : List Loc} (k_x0 : hK h x0 = 15) (k_x1 : hK h x1 = 12) (k_x2 : hK h x2 = 13) (k_x4 : hK h x4 = 12) (k_t1 : hK h t1 = 12) (k_t2 : hK h t2 = 15) (hkm : Km h0 h) (hW : Wx X h H) (hZ : va_S (aA (eB X)) s.heap H locs) (ls : Array Slot) (hl : lv_has ls 15 [(0, .ref x0), (1, .ref x1), (2, .ref x2), (3, .int x3), (4, .ref x4), (5, .int x5), (6, .int x6), (7, .int x7), (8, .int x8), (9, .int x9), (10, .int x10)]) (hE : sX15_make_92 F h x0 x1 x2 x3 x4 x5 x6 x7 x8 x9 x10 t0 t1 t2 = some o) : W p l e (rm 4 106) s m args below meth c H locs 0 0 (MQ below (QV X h0 o) args s 0 0 (aA (eB X))) (F0 m 92 ls [.int t0, .ref t1, .ref t2]) := by
  obtain ⟨o_1, eo_1, hE⟩ := cl_e hE
  refine x_kV (o := o_1) (z_runV (As := [.ref t1, .int t0]) (rest := []) C (ct_X15_leave l X k_t2 k_t1 eo_1) cw_X15_608 hW hZ k_t2 (by decide) rfl rfl rfl hl.1 (Nat.le_of_ble_eq_true rfl) rfl dX15_make_92 ⟨Nat.le_of_ble_eq_true rfl, Nat.le_of_ble_eq_true rfl⟩ ⟨Nat.le_refl _, Nat.le_refl _⟩) hZ (fun _ _ hW km hZ => ?_)
  replace hkm := hkm.tr km
  replace k_x0 := km.at k_x0 (by decide)
  replace k_x1 := km.at k_x1 (by decide)
  replace k_x2 := km.at k_x2 (by decide)
  replace k_x4 := km.at k_x4 (by decide)
  refine lv_iconst (v := (2 : Int32)) C.1 C.2.1 dX15_make_95 (by decide) ?_
  refine lv_aload_n C.1 C.2.1 dX15_make_96 rfl (lv_at hl 2 rfl) ?_
  obtain ⟨r_2, er_2, hE⟩ := cl_e hE
  refine gf_X15_605 C hW k_x2 er_2 dX15_make_97 (fun k_r_2 => ?_)
  refine lv_iload_n C.1 C.2.1 dX15_make_100 rfl (lv_at hl 3 rfl) ?_
  obtain ⟨g_3, hE⟩ := gd_e hE
  refine y_iald C hW k_r_2 g_3 dX15_make_101 ?_
  refine lv_imul C.1 C.2.1 dX15_make_102 ?_
  refine lv_iload C.1 C.2.1 dX15_make_103 (lv_at hl 5 rfl) ?_
  refine lv_iadd C.1 C.2.1 dX15_make_105 ?_
  obtain ⟨v_4, ev_4, hE⟩ := nm_e2 hE
  refine x_nmI ev_4 ?_
  refine lv_istore (lv' := [(11, .int v_4), (0, .ref x0), (1, .ref x1), (2, .ref x2), (3, .int x3), (4, .ref x4), (5, .int x5), (6, .int x6), (7, .int x7), (8, .int x8), (9, .int x9), (10, .int x10)]) C.1 C.2.1 dX15_make_106 hl (by decide) rfl (fun ls hl => ?_)
  refine lv_aload_n C.1 C.2.1 dX15_make_108 rfl (lv_at hl 1 rfl) ?_
  obtain ⟨r_5, er_5, hE⟩ := cl_e hE
  refine gf_X15_252 C hW k_x0 er_5 dX15_make_109 (fun k_r_5 => ?_)
  refine gf_X15_126 C hW k_r_5 dX15_make_112 ?_
  refine lv_if_eq (tgt := 159) C.1 C.2.1 dX15_make_115 (by decide) (fun c_6 => ?_) (fun c_6 => ?_)
  · have hE := br_p hE c_6
    exact bX15_make_159 C k_x0 k_x1 k_x2 k_x4 hkm hW hZ _ (lv_sub hl [1, 2, 3, 4, 5, 6, 7, 8, 9, 10, 11] rfl) hE
  · have hE := br_n hE c_6
    refine lv_aload_n C.1 C.2.1 dX15_make_118 rfl (lv_at hl 3 rfl) ?_
    obtain ⟨r_7, er_7, hE⟩ := cl_e hE
    refine gf_X15_605 C hW k_x2 er_7 dX15_make_119 (fun k_r_7 => ?_)
    refine lv_iload_n C.1 C.2.1 dX15_make_122 rfl (lv_at hl 4 rfl) ?_
    obtain ⟨g_8, hE⟩ := gd_e hE
    refine y_iald C hW k_r_7 g_8 dX15_make_123 ?_
    refine lv_aload_n C.1 C.2.1 dX15_make_124 rfl (lv_at hl 1 rfl) ?_
    obtain ⟨r_9, er_9, hE⟩ := cl_e hE
    refine gf_X15_252 C hW k_x0 er_9 dX15_make_125 (fun k_r_9 => ?_)
    refine gf_X15_221 C hW k_r_9 dX15_make_128 ?_
    refine lv_icmp_eq (tgt := 159) C.1 C.2.1 dX15_make_131 (by decide) (fun c_10 => ?_) (fun c_10 => ?_)
    · have hE := br_p hE c_10
      exact bX15_make_159 C k_x0 k_x1 k_x2 k_x4 hkm hW hZ _ (lv_sub hl [1, 2, 3, 4, 5, 6, 7, 8, 9, 10, 11] rfl) hE
    · have hE := br_n hE c_10
      refine lv_aload C.1 C.2.1 dX15_make_134 (lv_at hl 5 rfl) ?_
      obtain ⟨r_11, er_11, hE⟩ := cl_e hE
      refine gf_X15_444 C hW k_x4 er_11 dX15_make_136 (fun k_r_11 => ?_)
      refine lv_iload C.1 C.2.1 dX15_make_139 (lv_at hl 0 rfl) ?_
      obtain ⟨g_12, hE⟩ := gd_e hE
      refine y_iald C hW k_r_11 g_12 dX15_make_141 ?_
      refine lv_bipush (v := (16 : Int32)) C.1 C.2.1 dX15_make_142 (by decide) ?_
      refine lv_icmp_ge (tgt := 159) C.1 C.2.1 dX15_make_144 (by decide) (fun c_13 => ?_) (fun c_13 => ?_)
      · have hE := br_p hE c_13
        exact bX15_make_159 C k_x0 k_x1 k_x2 k_x4 hkm hW hZ _ (lv_sub hl [1, 2, 3, 4, 5, 6, 7, 8, 9, 10, 11] rfl) hE
      · have hE := br_n hE c_13
        refine lv_aload C.1 C.2.1 dX15_make_147 (lv_at hl 5 rfl) ?_
        obtain ⟨r_14, er_14, hE⟩ := cl_e hE
        refine gf_X15_444 C hW k_x4 er_14 dX15_make_149 (fun k_r_14 => ?_)
        refine lv_iload C.1 C.2.1 dX15_make_152 (lv_at hl 0 rfl) ?_
        refine lv_dup2_11 C.1 C.2.1 dX15_make_154 rfl rfl ?_
        obtain ⟨g_15, hE⟩ := gd_e hE
        refine y_iald C hW k_r_14 g_15 dX15_make_155 ?_
        refine lv_iconst (v := (1 : Int32)) C.1 C.2.1 dX15_make_156 (by decide) ?_
        refine lv_iadd C.1 C.2.1 dX15_make_157 ?_
        obtain ⟨g_16, hE⟩ := gd_e hE
        obtain ⟨h_17, eh_17, hE⟩ := nm_e2 hE
        refine y_iast C hW hZ k_r_14 g_16 eh_17 dX15_make_158 (fun _ _ hW km hZ => ?_)
        replace hkm := hkm.tr km
        replace k_x0 := km.at k_x0 (by decide)
        replace k_x1 := km.at k_x1 (by decide)
        replace k_x2 := km.at k_x2 (by decide)
        replace k_x4 := km.at k_x4 (by decide)
        exact bX15_make_159 C k_x0 k_x1 k_x2 k_x4 hkm hW hZ _ (lv_sub hl [1, 2, 3, 4, 5, 6, 7, 8, 9, 10, 11] rfl) hE
set_option maxRecDepth 20000 in
theorem bX15_make_65 {p : Program} {l : Launch} {e : Env} {s : State} {m : MethodId} {args : Array Value} {below : List Frame} {meth : Method} {c : Code} {X : Ec} {h0 : Hp} {o : Hp} {F : Nat} (C : Cx X p s m args meth c RX15 cX15_make 15 none "make") {h : Hp} {x0 : Nat} {x1 : Nat} {x2 : Nat} {x3 : Int32} {x4 : Nat} {x5 : Int32} {x6 : Int32} {x7 : Int32} {x8 : Int32} {x9 : Int32} {t0 : Int32} {H : Heap} {locs : List Loc} (k_x0 : hK h x0 = 15) (k_x1 : hK h x1 = 12) (k_x2 : hK h x2 = 13) (k_x4 : hK h x4 = 12) (hkm : Km h0 h) (hW : Wx X h H) (hZ : va_S (aA (eB X)) s.heap H locs) (ls : Array Slot) (hl : lv_has ls 15 [(0, .ref x0), (1, .ref x1), (2, .ref x2), (3, .int x3), (4, .ref x4), (5, .int x5), (6, .int x6), (7, .int x7), (8, .int x8), (9, .int x9)]) (hE : sX15_make_65 F h x0 x1 x2 x3 x4 x5 x6 x7 x8 x9 t0 = some o) : W p l e (rm 4 106) s m args below meth c H locs 0 0 (MQ below (QV X h0 o) args s 0 0 (aA (eB X))) (F0 m 65 ls [.int t0]) := by
  refine lv_istore (lv' := [(10, .int t0), (0, .ref x0), (1, .ref x1), (2, .ref x2), (3, .int x3), (4, .ref x4), (5, .int x5), (6, .int x6), (7, .int x7), (8, .int x8), (9, .int x9)]) C.1 C.2.1 dX15_make_65 hl (by decide) rfl (fun ls hl => ?_)
  refine lv_iload C.1 C.2.1 dX15_make_67 (lv_at hl 0 rfl) ?_
  refine lv_if_eq (tgt := 159) C.1 C.2.1 dX15_make_69 (by decide) (fun c_1 => ?_) (fun c_1 => ?_)
  · have hE := br_p hE c_1
    exact bX15_make_159 C k_x0 k_x1 k_x2 k_x4 hkm hW hZ _ (lv_sub hl [1, 2, 3, 4, 5, 6, 7, 8, 9, 10, 0] rfl) hE
  · have hE := br_n hE c_1
    refine lv_aload_n C.1 C.2.1 dX15_make_72 rfl (lv_at hl 1 rfl) ?_
    refine lv_aload C.1 C.2.1 dX15_make_73 (lv_at hl 5 rfl) ?_
    refine lv_iload C.1 C.2.1 dX15_make_75 (lv_at hl 10 rfl) ?_
    refine lv_iconst (v := (1 : Int32)) C.1 C.2.1 dX15_make_77 (by decide) ?_
    refine lv_icmp_ne (tgt := 90) C.1 C.2.1 dX15_make_78 (by decide) (fun c_2 => ?_) (fun c_2 => ?_)
    · have hE := br_n hE c_2
      refine lv_iload C.1 C.2.1 dX15_make_90 (lv_at hl 8 rfl) ?_
      exact bX15_make_92 C k_x0 k_x1 k_x2 k_x4 k_x4 k_x0 hkm hW hZ _ (lv_sub hl [1, 2, 3, 4, 5, 6, 7, 8, 9, 10, 0] rfl) hE
    · have hE := br_p hE c_2
      refine lv_aload_n C.1 C.2.1 dX15_make_81 rfl (lv_at hl 2 rfl) ?_
      obtain ⟨r_3, er_3, hE⟩ := cl_e hE
      refine gf_X15_439 C hW k_x1 er_3 dX15_make_82 (fun k_r_3 => ?_)
      refine lv_iconst (v := (0 : Int32)) C.1 C.2.1 dX15_make_85 (by decide) ?_
      obtain ⟨g_4, hE⟩ := gd_e hE
      refine y_iald C hW k_r_3 g_4 dX15_make_86 ?_
      refine lv_goto (tgt := 92) C.1 C.2.1 dX15_make_87 (by decide) ?_
      exact bX15_make_92 C k_x0 k_x1 k_x2 k_x4 k_x4 k_x0 hkm hW hZ _ (lv_sub hl [1, 2, 3, 4, 5, 6, 7, 8, 9, 10, 0] rfl) hE
set_option maxRecDepth 20000 in
theorem ct_X15_make (l : Launch) (X : Ec) (F : Nat) {h : Hp} {x0 : Nat} {x1 : Nat} {x2 : Nat} {x3 : Int32} {x4 : Nat} {o : Hp} (k_x0 : hK h x0 = 15) (k_x1 : hK h x1 = 12) (k_x2 : hK h x2 = 13) (k_x4 : hK h x4 = 12) (hE : sX15_make F h x0 x1 x2 x3 x4 = some o) : MetV l yX15_make cX15_make 15 none 4 106 X [.ref x0, .ref x1, .ref x2, .int x3, .ref x4] h o := by
  refine x_met (by decide) (Nat.le_of_ble_eq_true rfl) ?_
  intro p e s m below meth c ls C hl hW hZ
  have hl : lv_has ls 15 [(0, .ref x0), (1, .ref x1), (2, .ref x2), (3, .int x3), (4, .ref x4)] := hl
  have hkm : Km h h := Km.rf h
  refine lv_aload C.1 C.2.1 dX15_make_0 (lv_at hl 4 rfl) ?_
  refine lv_aload_n C.1 C.2.1 dX15_make_2 rfl (lv_at hl 1 rfl) ?_
  obtain ⟨o_1, eo_1, hE⟩ := cl_e hE
  refine x_kV (o := o_1) (z_runV (As := [.ref x1]) (rest := []) C (ct_X12_copy l X k_x4 k_x1 eo_1) cw_X15_405 hW hZ k_x4 (by decide) rfl rfl rfl hl.1 (Nat.le_of_ble_eq_true rfl) rfl dX15_make_3 ⟨Nat.le_of_ble_eq_true rfl, Nat.le_of_ble_eq_true rfl⟩ ⟨Nat.le_refl _, Nat.le_refl _⟩) hZ (fun _ _ hW km hZ => ?_)
  replace hkm := hkm.tr km
  replace k_x0 := km.at k_x0 (by decide)
  replace k_x1 := km.at k_x1 (by decide)
  replace k_x2 := km.at k_x2 (by decide)
  replace k_x4 := km.at k_x4 (by decide)
  refine lv_aload_n C.1 C.2.1 dX15_make_6 rfl (lv_at hl 1 rfl) ?_
  refine gf_X15_452 C hW k_x1 dX15_make_7 ?_
  obtain ⟨v_2, ev_2, hE⟩ := nm_e2 hE
  refine x_nmI ev_2 ?_
  refine lv_istore (lv' := [(5, .int v_2), (0, .ref x0), (1, .ref x1), (2, .ref x2), (3, .int x3), (4, .ref x4)]) C.1 C.2.1 dX15_make_10 hl (by decide) rfl (fun ls hl => ?_)
  refine lv_aload_n C.1 C.2.1 dX15_make_12 rfl (lv_at hl 3 rfl) ?_
  obtain ⟨r_3, er_3, hE⟩ := cl_e hE
  refine gf_X15_597 C hW k_x2 er_3 dX15_make_13 (fun k_r_3 => ?_)
  refine lv_iload_n C.1 C.2.1 dX15_make_16 rfl (lv_at hl 4 rfl) ?_
  obtain ⟨g_4, hE⟩ := gd_e hE
  refine y_iald C hW k_r_3 g_4 dX15_make_17 ?_
  obtain ⟨v_5, ev_5, hE⟩ := nm_e2 hE
  refine x_nmI ev_5 ?_
  refine lv_istore (lv' := [(6, .int v_5), (5, .int v_2), (0, .ref x0), (1, .ref x1), (2, .ref x2), (3, .int x3), (4, .ref x4)]) C.1 C.2.1 dX15_make_18 hl (by decide) rfl (fun ls hl => ?_)
  refine lv_aload_n C.1 C.2.1 dX15_make_20 rfl (lv_at hl 4 rfl) ?_
  obtain ⟨r_6, er_6, hE⟩ := cl_e hE
  refine gf_X15_598 C hW k_x2 er_6 dX15_make_21 (fun k_r_6 => ?_)
  refine lv_iload_n C.1 C.2.1 dX15_make_24 rfl (lv_at hl 5 rfl) ?_
  obtain ⟨g_7, hE⟩ := gd_e hE
  refine y_iald C hW k_r_6 g_7 dX15_make_25 ?_
  obtain ⟨v_8, ev_8, hE⟩ := nm_e2 hE
  refine x_nmI ev_8 ?_
  refine lv_istore (lv' := [(7, .int v_8), (6, .int v_5), (5, .int v_2), (0, .ref x0), (1, .ref x1), (2, .ref x2), (3, .int x3), (4, .ref x4)]) C.1 C.2.1 dX15_make_26 hl (by decide) rfl (fun ls hl => ?_)
  refine lv_aload_n C.1 C.2.1 dX15_make_28 rfl (lv_at hl 5 rfl) ?_
  obtain ⟨r_9, er_9, hE⟩ := cl_e hE
  refine gf_X15_600 C hW k_x2 er_9 dX15_make_29 (fun k_r_9 => ?_)
  refine lv_iload_n C.1 C.2.1 dX15_make_32 rfl (lv_at hl 6 rfl) ?_
  obtain ⟨g_10, hE⟩ := gd_e hE
  refine y_iald C hW k_r_9 g_10 dX15_make_33 ?_
  obtain ⟨v_11, ev_11, hE⟩ := nm_e2 hE
  refine x_nmI ev_11 ?_
  refine lv_istore (lv' := [(8, .int v_11), (7, .int v_8), (6, .int v_5), (5, .int v_2), (0, .ref x0), (1, .ref x1), (2, .ref x2), (3, .int x3), (4, .ref x4)]) C.1 C.2.1 dX15_make_34 hl (by decide) rfl (fun ls hl => ?_)
  refine lv_aload_n C.1 C.2.1 dX15_make_36 rfl (lv_at hl 6 rfl) ?_
  obtain ⟨r_12, er_12, hE⟩ := cl_e hE
  refine gf_X15_602 C hW k_x2 er_12 dX15_make_37 (fun k_r_12 => ?_)
  refine lv_iload_n C.1 C.2.1 dX15_make_40 rfl (lv_at hl 7 rfl) ?_
  obtain ⟨g_13, hE⟩ := gd_e hE
  refine y_iald C hW k_r_12 g_13 dX15_make_41 ?_
  obtain ⟨v_14, ev_14, hE⟩ := nm_e2 hE
  refine x_nmI ev_14 ?_
  refine lv_istore (lv' := [(9, .int v_14), (8, .int v_11), (7, .int v_8), (6, .int v_5), (5, .int v_2), (0, .ref x0), (1, .ref x1), (2, .ref x2), (3, .int x3), (4, .ref x4)]) C.1 C.2.1 dX15_make_42 hl (by decide) rfl (fun ls hl => ?_)
  refine lv_aload C.1 C.2.1 dX15_make_44 (lv_at hl 9 rfl) ?_
  refine lv_iconst (v := (0 : Int32)) C.1 C.2.1 dX15_make_46 (by decide) ?_
  obtain ⟨h_15, eh_15, hE⟩ := nm_e2 hE
  refine pf_X15_441 C hW hZ k_x4 eh_15 dX15_make_47 (fun _ _ hW km hZ => ?_)
  replace hkm := hkm.tr km
  replace k_x0 := km.at k_x0 (by decide)
  replace k_x1 := km.at k_x1 (by decide)
  replace k_x2 := km.at k_x2 (by decide)
  replace k_x4 := km.at k_x4 (by decide)
  refine lv_aload_n C.1 C.2.1 dX15_make_50 rfl (lv_at hl 7 rfl) ?_
  obtain ⟨r_16, er_16, hE⟩ := cl_e hE
  refine gf_X15_605 C hW k_x2 er_16 dX15_make_51 (fun k_r_16 => ?_)
  refine lv_iload_n C.1 C.2.1 dX15_make_54 rfl (lv_at hl 8 rfl) ?_
  obtain ⟨g_17, hE⟩ := gd_e hE
  refine y_iald C hW k_r_16 g_17 dX15_make_55 ?_
  refine lv_iconst (v := (-1 : Int32)) C.1 C.2.1 dX15_make_56 (by decide) ?_
  refine lv_icmp_eq (tgt := 64) C.1 C.2.1 dX15_make_57 (by decide) (fun c_18 => ?_) (fun c_18 => ?_)
  · have hE := br_p hE c_18
    refine lv_iconst (v := (0 : Int32)) C.1 C.2.1 dX15_make_64 (by decide) ?_
    exact bX15_make_65 C k_x0 k_x1 k_x2 k_x4 hkm hW hZ _ (lv_sub hl [5, 6, 7, 8, 9, 4, 3, 2, 1, 0] rfl) hE
  · have hE := br_n hE c_18
    refine lv_iconst (v := (1 : Int32)) C.1 C.2.1 dX15_make_60 (by decide) ?_
    refine lv_goto (tgt := 65) C.1 C.2.1 dX15_make_61 (by decide) ?_
    exact bX15_make_65 C k_x0 k_x1 k_x2 k_x4 hkm hW hZ _ (lv_sub hl [5, 6, 7, 8, 9, 4, 3, 2, 1, 0] rfl) hE
