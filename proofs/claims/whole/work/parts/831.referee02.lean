set_option maxRecDepth 100000 in
theorem m_349 : Cond.fieldLink RX5 71 (TX5 4).1 (TX5 4).2.1 (TX5 4).2.2.1 ∈ W0 := w0_in (List.mem_append_right _ (List.mem_of_getElem? (i := 349) rfl)) rfl
set_option maxRecDepth 100000 in
theorem m_353 : Cond.fieldLink RX5 126 (TX5 8).1 (TX5 8).2.1 (TX5 8).2.2.1 ∈ W0 := w0_in (List.mem_append_right _ (List.mem_of_getElem? (i := 353) rfl)) rfl
set_option maxRecDepth 100000 in
theorem m_354 : Cond.fieldLink RX5 132 (TX5 9).1 (TX5 9).2.1 (TX5 9).2.2.1 ∈ W0 := w0_in (List.mem_append_right _ (List.mem_of_getElem? (i := 354) rfl)) rfl
set_option maxRecDepth 100000 in
theorem m_1149 : Cond.methodLink RX5 146 yX10_isOpen ∈ W0 := w0_in (List.mem_append_right _ (List.mem_of_getElem? (i := 1149) rfl)) rfl
section
variable {p : Program} {l : Launch} {e : Env} {R : Room} {s : State} {m : MethodId} {args : Array Value} {below : List Frame} {meth : Method} {c : Code} {H : Heap} {locs : List Loc} {cells slots : Nat} {Q : State → Prop}
variable {cc : ByteArray} {pc : Nat} {ls : Array Slot} {rest : List Value} {X : Ec} {h h1 : Hp} {nL : Nat} {rt : Option FieldType} {mn : String}
theorem pf_X5_132 {a : Nat} {v : Int32} (C : Cx X p s m args meth c RX5 cc nL rt mn) (hW : Wx X h H) (hZ : va_S (aA (eB X)) s.heap H locs) (ha : hK h a = 5) (hn : narrow .boolean (.int v) = .int v) (eh : h1 = wI h a 9 v) (hdg : decode cc pc = .ok (.putfield 132, 3)) (kk : ∀ (H1 : Heap) (locs1 : List Loc), Wx X h1 H1 → Km h h1 → va_S (aA (eB X)) s.heap H1 locs1 → W p l e R s m args below meth c H1 locs1 cells slots Q (F0 m (pc + 3) ls rest)) : W p l e R s m args below meth c H locs cells slots Q (F0 m pc ls (.int v :: .ref a :: rest)) :=
  y_puti (ty := .boolean) C hW hZ ha i_X5 tyX5 tyX5_ok nmX5 (by decide) rfl rfl (by decide) m_354 rfl (by decide +kernel) rfl hn (fitZ hn) eh hdg kk
theorem gf_X5_126 {a : Nat} (C : Cx X p s m args meth c RX5 cc nL rt mn) (hW : Wx X h H) (ha : hK h a = 5) (hdg : decode cc pc = .ok (.getfield 126, 3)) (kk : W p l e R s m args below meth c H locs cells slots Q (F0 m (pc + 3) ls (.long (hJ h a 8) :: rest))) : W p l e R s m args below meth c H locs cells slots Q (F0 m pc ls (.ref a :: rest)) :=
  y_getj C hW ha i_X5 (by decide) rfl (by decide) m_353 rfl hdg kk
theorem pf_X5_126 {a : Nat} {v : Int64} (C : Cx X p s m args meth c RX5 cc nL rt mn) (hW : Wx X h H) (hZ : va_S (aA (eB X)) s.heap H locs) (ha : hK h a = 5) (eh : h1 = wJ h a 8 v) (hdg : decode cc pc = .ok (.putfield 126, 3)) (kk : ∀ (H1 : Heap) (locs1 : List Loc), Wx X h1 H1 → Km h h1 → va_S (aA (eB X)) s.heap H1 locs1 → W p l e R s m args below meth c H1 locs1 cells slots Q (F0 m (pc + 3) ls rest)) : W p l e R s m args below meth c H locs cells slots Q (F0 m pc ls (.long v :: .ref a :: rest)) :=
  y_putj C hW hZ ha i_X5 tyX5 tyX5_ok nmX5 (by decide) rfl rfl (by decide) m_353 rfl (by decide +kernel) rfl eh hdg kk
theorem gf_X5_132 {a : Nat} (C : Cx X p s m args meth c RX5 cc nL rt mn) (hW : Wx X h H) (ha : hK h a = 5) (hdg : decode cc pc = .ok (.getfield 132, 3)) (kk : W p l e R s m args below meth c H locs cells slots Q (F0 m (pc + 3) ls (.int (hI h a 9) :: rest))) : W p l e R s m args below meth c H locs cells slots Q (F0 m pc ls (.ref a :: rest)) :=
  y_geti C hW ha i_X5 (by decide) rfl (by decide) m_354 rfl hdg kk
theorem gf_X5_71 {a r : Nat} (C : Cx X p s m args meth c RX5 cc nL rt mn) (hW : Wx X h H) (ha : hK h a = 5) (hr : hR h a 4 = some r) (hdg : decode cc pc = .ok (.getfield 71, 3)) (kk : hK h r = 3 → W p l e R s m args below meth c H locs cells slots Q (F0 m (pc + 3) ls (.ref r :: rest))) : W p l e R s m args below meth c H locs cells slots Q (F0 m pc ls (.ref a :: rest)) :=
  y_getr C hW ha i_X5 (by decide) rfl (by decide) m_349 rfl rfl hr hdg kk
end
theorem cw_X5_146 : cwd RX5 146 yX10_isOpen cX10_isOpen 6 (some .boolean) false 2 := ⟨m_1152, m_1149, m_6, ⟨m_1150, m_1151⟩, by decide, by decide, by decide +kernel⟩
theorem dX5_survey_0 : decode cX5_survey 0 = .ok (.aload_n 0, 1) := by decide +kernel
theorem dX5_survey_1 : decode cX5_survey 1 = .ok (.getfield 71, 3) := by decide +kernel
theorem dX5_survey_4 : decode cX5_survey 4 = .ok (.invokevirtual 138, 3) := by decide +kernel
theorem dX5_survey_7 : decode cX5_survey 7 = .ok (.lstore_n 2, 1) := by decide +kernel
theorem dX5_survey_8 : decode cX5_survey 8 = .ok (.aload_n 0, 1) := by decide +kernel
theorem dX5_survey_9 : decode cX5_survey 9 = .ok (.getfield 71, 3) := by decide +kernel
theorem dX5_survey_12 : decode cX5_survey 12 = .ok (.getfield 33, 3) := by decide +kernel
theorem dX5_survey_15 : decode cX5_survey 15 = .ok (.iconst 1, 1) := by decide +kernel
theorem dX5_survey_16 : decode cX5_survey 16 = .ok (.aload_n 0, 1) := by decide +kernel
theorem dX5_survey_17 : decode cX5_survey 17 = .ok (.getfield 71, 3) := by decide +kernel
theorem dX5_survey_20 : decode cX5_survey 20 = .ok (.getfield 78, 3) := by decide +kernel
theorem dX5_survey_23 : decode cX5_survey 23 = .ok (.isub, 1) := by decide +kernel
theorem dX5_survey_24 : decode cX5_survey 24 = .ok (.laload, 1) := by decide +kernel
theorem dX5_survey_25 : decode cX5_survey 25 = .ok (.lstore 4, 2) := by decide +kernel
theorem dX5_survey_27 : decode cX5_survey 27 = .ok (.iconst 0, 1) := by decide +kernel
theorem dX5_survey_28 : decode cX5_survey 28 = .ok (.istore 6, 2) := by decide +kernel
theorem dX5_survey_30 : decode cX5_survey 30 = .ok (.iload 6, 2) := by decide +kernel
theorem dX5_survey_32 : decode cX5_survey 32 = .ok (.bipush 64, 2) := by decide +kernel
theorem dX5_survey_34 : decode cX5_survey 34 = .ok (.if_icmp .ge 196, 3) := by decide +kernel
theorem dX5_survey_37 : decode cX5_survey 37 = .ok (.lload 4, 2) := by decide +kernel
theorem dX5_survey_39 : decode cX5_survey 39 = .ok (.lconst 0, 1) := by decide +kernel
theorem dX5_survey_40 : decode cX5_survey 40 = .ok (.lcmp, 1) := by decide +kernel
theorem dX5_survey_41 : decode cX5_survey 41 = .ok (.ifCond .eq 189, 3) := by decide +kernel
theorem dX5_survey_44 : decode cX5_survey 44 = .ok (.lload 4, 2) := by decide +kernel
theorem dX5_survey_46 : decode cX5_survey 46 = .ok (.lload 4, 2) := by decide +kernel
theorem dX5_survey_48 : decode cX5_survey 48 = .ok (.lneg, 1) := by decide +kernel
theorem dX5_survey_49 : decode cX5_survey 49 = .ok (.land, 1) := by decide +kernel
theorem dX5_survey_50 : decode cX5_survey 50 = .ok (.lstore 7, 2) := by decide +kernel
theorem dX5_survey_52 : decode cX5_survey 52 = .ok (.lload 4, 2) := by decide +kernel
theorem dX5_survey_54 : decode cX5_survey 54 = .ok (.lload 7, 2) := by decide +kernel
theorem dX5_survey_56 : decode cX5_survey 56 = .ok (.lxor, 1) := by decide +kernel
theorem dX5_survey_57 : decode cX5_survey 57 = .ok (.lstore 4, 2) := by decide +kernel
theorem dX5_survey_59 : decode cX5_survey 59 = .ok (.getstatic 37, 3) := by decide +kernel
theorem dX5_survey_62 : decode cX5_survey 62 = .ok (.lload 7, 2) := by decide +kernel
theorem dX5_survey_64 : decode cX5_survey 64 = .ok (.ldc2_w 40, 3) := by decide +kernel
theorem dX5_survey_67 : decode cX5_survey 67 = .ok (.lmul, 1) := by decide +kernel
theorem dX5_survey_68 : decode cX5_survey 68 = .ok (.bipush 58, 2) := by decide +kernel
theorem dX5_survey_70 : decode cX5_survey 70 = .ok (.lushr, 1) := by decide +kernel
theorem dX5_survey_71 : decode cX5_survey 71 = .ok (.l2i, 1) := by decide +kernel
theorem dX5_survey_72 : decode cX5_survey 72 = .ok (.iaload, 1) := by decide +kernel
theorem dX5_survey_73 : decode cX5_survey 73 = .ok (.istore 9, 2) := by decide +kernel
theorem dX5_survey_75 : decode cX5_survey 75 = .ok (.aload_n 0, 1) := by decide +kernel
theorem dX5_survey_76 : decode cX5_survey 76 = .ok (.getfield 71, 3) := by decide +kernel
theorem dX5_survey_79 : decode cX5_survey 79 = .ok (.getfield 42, 3) := by decide +kernel
theorem dX5_survey_82 : decode cX5_survey 82 = .ok (.iload 9, 2) := by decide +kernel
theorem dX5_survey_84 : decode cX5_survey 84 = .ok (.baload, 1) := by decide +kernel
theorem dX5_survey_85 : decode cX5_survey 85 = .ok (.istore 10, 2) := by decide +kernel
theorem dX5_survey_87 : decode cX5_survey 87 = .ok (.aload_n 0, 1) := by decide +kernel
theorem dX5_survey_88 : decode cX5_survey 88 = .ok (.getfield 26, 3) := by decide +kernel
theorem dX5_survey_91 : decode cX5_survey 91 = .ok (.getfield 46, 3) := by decide +kernel
theorem dX5_survey_94 : decode cX5_survey 94 = .ok (.iload 10, 2) := by decide +kernel
theorem dX5_survey_96 : decode cX5_survey 96 = .ok (.bipush 64, 2) := by decide +kernel
theorem dX5_survey_98 : decode cX5_survey 98 = .ok (.imul, 1) := by decide +kernel
theorem dX5_survey_99 : decode cX5_survey 99 = .ok (.iload_n 1, 1) := by decide +kernel
theorem dX5_survey_100 : decode cX5_survey 100 = .ok (.iadd, 1) := by decide +kernel
theorem dX5_survey_101 : decode cX5_survey 101 = .ok (.laload, 1) := by decide +kernel
theorem dX5_survey_102 : decode cX5_survey 102 = .ok (.lload 7, 2) := by decide +kernel
theorem dX5_survey_104 : decode cX5_survey 104 = .ok (.land, 1) := by decide +kernel
theorem dX5_survey_105 : decode cX5_survey 105 = .ok (.lconst 0, 1) := by decide +kernel
theorem dX5_survey_106 : decode cX5_survey 106 = .ok (.lcmp, 1) := by decide +kernel
theorem dX5_survey_107 : decode cX5_survey 107 = .ok (.ifCond .ne 6, 3) := by decide +kernel
theorem dX5_survey_110 : decode cX5_survey 110 = .ok (.goto 114, 3) := by decide +kernel
theorem dX5_survey_113 : decode cX5_survey 113 = .ok (.iload 10, 2) := by decide +kernel
theorem dX5_survey_115 : decode cX5_survey 115 = .ok (.iload 9, 2) := by decide +kernel
theorem dX5_survey_117 : decode cX5_survey 117 = .ok (.iload_n 1, 1) := by decide +kernel
theorem dX5_survey_118 : decode cX5_survey 118 = .ok (.invokestatic 142, 3) := by decide +kernel
theorem dX5_survey_121 : decode cX5_survey 121 = .ok (.istore 11, 2) := by decide +kernel
theorem dX5_survey_123 : decode cX5_survey 123 = .ok (.aload_n 0, 1) := by decide +kernel
theorem dX5_survey_124 : decode cX5_survey 124 = .ok (.getfield 26, 3) := by decide +kernel
theorem dX5_survey_127 : decode cX5_survey 127 = .ok (.getfield 51, 3) := by decide +kernel
theorem dX5_survey_130 : decode cX5_survey 130 = .ok (.iload 11, 2) := by decide +kernel
theorem dX5_survey_132 : decode cX5_survey 132 = .ok (.iaload, 1) := by decide +kernel
theorem dX5_survey_133 : decode cX5_survey 133 = .ok (.istore 12, 2) := by decide +kernel
theorem dX5_survey_135 : decode cX5_survey 135 = .ok (.iload 12, 2) := by decide +kernel
theorem dX5_survey_137 : decode cX5_survey 137 = .ok (.aload_n 0, 1) := by decide +kernel
theorem dX5_survey_138 : decode cX5_survey 138 = .ok (.getfield 26, 3) := by decide +kernel
theorem dX5_survey_141 : decode cX5_survey 141 = .ok (.getfield 51, 3) := by decide +kernel
theorem dX5_survey_144 : decode cX5_survey 144 = .ok (.iload 11, 2) := by decide +kernel
theorem dX5_survey_146 : decode cX5_survey 146 = .ok (.iconst 1, 1) := by decide +kernel
theorem dX5_survey_147 : decode cX5_survey 147 = .ok (.iadd, 1) := by decide +kernel
theorem dX5_survey_148 : decode cX5_survey 148 = .ok (.iaload, 1) := by decide +kernel
theorem dX5_survey_149 : decode cX5_survey 149 = .ok (.if_icmp .ge 75, 3) := by decide +kernel
theorem dX5_survey_152 : decode cX5_survey 152 = .ok (.aload_n 0, 1) := by decide +kernel
theorem dX5_survey_153 : decode cX5_survey 153 = .ok (.getfield 26, 3) := by decide +kernel
theorem dX5_survey_156 : decode cX5_survey 156 = .ok (.getfield 54, 3) := by decide +kernel
theorem dX5_survey_159 : decode cX5_survey 159 = .ok (.iload 12, 2) := by decide +kernel
theorem dX5_survey_161 : decode cX5_survey 161 = .ok (.iaload, 1) := by decide +kernel
theorem dX5_survey_162 : decode cX5_survey 162 = .ok (.bipush 6, 2) := by decide +kernel
theorem dX5_survey_164 : decode cX5_survey 164 = .ok (.ishr, 1) := by decide +kernel
theorem dX5_survey_165 : decode cX5_survey 165 = .ok (.iconst 1, 1) := by decide +kernel
theorem dX5_survey_166 : decode cX5_survey 166 = .ok (.iand, 1) := by decide +kernel
theorem dX5_survey_167 : decode cX5_survey 167 = .ok (.ifCond .ne 51, 3) := by decide +kernel
theorem dX5_survey_170 : decode cX5_survey 170 = .ok (.aload_n 0, 1) := by decide +kernel
theorem dX5_survey_171 : decode cX5_survey 171 = .ok (.dup, 1) := by decide +kernel
theorem dX5_survey_172 : decode cX5_survey 172 = .ok (.getfield 126, 3) := by decide +kernel
theorem dX5_survey_175 : decode cX5_survey 175 = .ok (.aload_n 0, 1) := by decide +kernel
theorem dX5_survey_176 : decode cX5_survey 176 = .ok (.getfield 26, 3) := by decide +kernel
theorem dX5_survey_179 : decode cX5_survey 179 = .ok (.getfield 57, 3) := by decide +kernel
theorem dX5_survey_182 : decode cX5_survey 182 = .ok (.iload 12, 2) := by decide +kernel
theorem dX5_survey_184 : decode cX5_survey 184 = .ok (.laload, 1) := by decide +kernel
theorem dX5_survey_185 : decode cX5_survey 185 = .ok (.lor, 1) := by decide +kernel
theorem dX5_survey_186 : decode cX5_survey 186 = .ok (.putfield 126, 3) := by decide +kernel
theorem dX5_survey_189 : decode cX5_survey 189 = .ok (.aload_n 0, 1) := by decide +kernel
theorem dX5_survey_190 : decode cX5_survey 190 = .ok (.aload_n 0, 1) := by decide +kernel
theorem dX5_survey_191 : decode cX5_survey 191 = .ok (.getfield 132, 3) := by decide +kernel
theorem dX5_survey_194 : decode cX5_survey 194 = .ok (.ifCond .eq 20, 3) := by decide +kernel
theorem dX5_survey_197 : decode cX5_survey 197 = .ok (.aload_n 0, 1) := by decide +kernel
theorem dX5_survey_198 : decode cX5_survey 198 = .ok (.getfield 26, 3) := by decide +kernel
theorem dX5_survey_201 : decode cX5_survey 201 = .ok (.iload 12, 2) := by decide +kernel
theorem dX5_survey_203 : decode cX5_survey 203 = .ok (.lload_n 2, 1) := by decide +kernel
theorem dX5_survey_204 : decode cX5_survey 204 = .ok (.invokevirtual 146, 3) := by decide +kernel
theorem dX5_survey_207 : decode cX5_survey 207 = .ok (.ifCond .ne 7, 3) := by decide +kernel
theorem dX5_survey_210 : decode cX5_survey 210 = .ok (.iconst 1, 1) := by decide +kernel
theorem dX5_survey_211 : decode cX5_survey 211 = .ok (.goto 4, 3) := by decide +kernel
theorem dX5_survey_214 : decode cX5_survey 214 = .ok (.iconst 0, 1) := by decide +kernel
theorem dX5_survey_215 : decode cX5_survey 215 = .ok (.putfield 132, 3) := by decide +kernel
theorem dX5_survey_218 : decode cX5_survey 218 = .ok (.iinc 12 1, 3) := by decide +kernel
theorem dX5_survey_221 : decode cX5_survey 221 = .ok (.goto (-86), 3) := by decide +kernel
theorem dX5_survey_224 : decode cX5_survey 224 = .ok (.iinc 6 1, 3) := by decide +kernel
theorem dX5_survey_227 : decode cX5_survey 227 = .ok (.goto (-197), 3) := by decide +kernel
theorem dX5_survey_230 : decode cX5_survey 230 = .ok (.return_, 1) := by decide +kernel
set_option maxRecDepth 20000 in
theorem moX5_survey_230 {o : Hp} {F : Nat} {h : Hp} (hE : sX5_survey_230 F h  = some o) : Le h o := by
  exact le_some1 hE
set_option maxRecDepth 20000 in
theorem moX5_survey_224 {o : Hp} {k_30 : Hp → Nat → Int32 → Int64 → Int64 → Int32 → Option (Hp)} {F : Nat} (mk_30 : ∀ (h : Hp) (x0 : Nat) (x1 : Int32) (x2 : Int64) (x4 : Int64) (x6 : Int32), k_30 h x0 x1 x2 x4 x6 = some o → Le h o) {h : Hp} {x0 : Nat} {x1 : Int32} {x2 : Int64} {x4 : Int64} {x6 : Int32} (hE : sX5_survey_224 F k_30 h x0 x1 x2 x4 x6 = some o) : Le h o := by
  obtain ⟨v_1, ev_1, hE⟩ := nm_e2 hE
  exact mk_30 _ _ _ _ _ _ hE
set_option maxRecDepth 20000 in
theorem moX5_survey_218 {o : Hp} {k_30 : Hp → Nat → Int32 → Int64 → Int64 → Int32 → Option (Hp)} {k_135 : Hp → Nat → Int32 → Int64 → Int64 → Int32 → Int32 → Int32 → Option (Hp)} {F : Nat} (mk_30 : ∀ (h : Hp) (x0 : Nat) (x1 : Int32) (x2 : Int64) (x4 : Int64) (x6 : Int32), k_30 h x0 x1 x2 x4 x6 = some o → Le h o) (mk_135 : ∀ (h : Hp) (x0 : Nat) (x1 : Int32) (x2 : Int64) (x4 : Int64) (x6 : Int32) (x11 : Int32) (x12 : Int32), k_135 h x0 x1 x2 x4 x6 x11 x12 = some o → Le h o) {h : Hp} {x0 : Nat} {x1 : Int32} {x2 : Int64} {x4 : Int64} {x6 : Int32} {x11 : Int32} {x12 : Int32} (hE : sX5_survey_218 F k_30 k_135 h x0 x1 x2 x4 x6 x11 x12 = some o) : Le h o := by
  obtain ⟨v_1, ev_1, hE⟩ := nm_e2 hE
  exact mk_135 _ _ _ _ _ _ _ _ hE
set_option maxRecDepth 20000 in
theorem moX5_survey_215 {o : Hp} {k_30 : Hp → Nat → Int32 → Int64 → Int64 → Int32 → Option (Hp)} {k_135 : Hp → Nat → Int32 → Int64 → Int64 → Int32 → Int32 → Int32 → Option (Hp)} {F : Nat} (mk_30 : ∀ (h : Hp) (x0 : Nat) (x1 : Int32) (x2 : Int64) (x4 : Int64) (x6 : Int32), k_30 h x0 x1 x2 x4 x6 = some o → Le h o) (mk_135 : ∀ (h : Hp) (x0 : Nat) (x1 : Int32) (x2 : Int64) (x4 : Int64) (x6 : Int32) (x11 : Int32) (x12 : Int32), k_135 h x0 x1 x2 x4 x6 x11 x12 = some o → Le h o) {h : Hp} {x0 : Nat} {x1 : Int32} {x2 : Int64} {x4 : Int64} {x6 : Int32} {x11 : Int32} {x12 : Int32} {t0 : Int32} {t1 : Nat} (hE : sX5_survey_215 F k_30 k_135 h x0 x1 x2 x4 x6 x11 x12 t0 t1 = some o) : Le h o := by
  obtain ⟨g_1, hE⟩ := gd_e hE
  obtain ⟨h_2, eh_2, hE⟩ := nm_e2 hE
  refine (le_I eh_2).tr ?_
  exact moX5_survey_218 mk_30 mk_135 hE
set_option maxRecDepth 20000 in
theorem moX5_survey_214 {o : Hp} {k_30 : Hp → Nat → Int32 → Int64 → Int64 → Int32 → Option (Hp)} {k_135 : Hp → Nat → Int32 → Int64 → Int64 → Int32 → Int32 → Int32 → Option (Hp)} {F : Nat} (mk_30 : ∀ (h : Hp) (x0 : Nat) (x1 : Int32) (x2 : Int64) (x4 : Int64) (x6 : Int32), k_30 h x0 x1 x2 x4 x6 = some o → Le h o) (mk_135 : ∀ (h : Hp) (x0 : Nat) (x1 : Int32) (x2 : Int64) (x4 : Int64) (x6 : Int32) (x11 : Int32) (x12 : Int32), k_135 h x0 x1 x2 x4 x6 x11 x12 = some o → Le h o) {h : Hp} {x0 : Nat} {x1 : Int32} {x2 : Int64} {x4 : Int64} {x6 : Int32} {x11 : Int32} {x12 : Int32} {t0 : Nat} (hE : sX5_survey_214 F k_30 k_135 h x0 x1 x2 x4 x6 x11 x12 t0 = some o) : Le h o := by
  exact moX5_survey_215 mk_30 mk_135 hE
set_option maxRecDepth 20000 in
theorem moX5_survey_135 {o : Hp} {k_30 : Hp → Nat → Int32 → Int64 → Int64 → Int32 → Option (Hp)} {F : Nat} (mk_30 : ∀ (h : Hp) (x0 : Nat) (x1 : Int32) (x2 : Int64) (x4 : Int64) (x6 : Int32), k_30 h x0 x1 x2 x4 x6 = some o → Le h o) : ∀ (f : Nat) {h : Hp} {x0 : Nat} {x1 : Int32} {x2 : Int64} {x4 : Int64} {x6 : Int32} {x11 : Int32} {x12 : Int32}, sX5_survey_135 F k_30 f h x0 x1 x2 x4 x6 x11 x12 = some o → Le h o := by
  intro f
  induction f with
  | zero =>
    intro h x0 x1 x2 x4 x6 x11 x12 hE
    rw [sX5_survey_135] at hE
    cases hE
  | succ f ih =>
    intro h x0 x1 x2 x4 x6 x11 x12 hE
    rw [sX5_survey_135] at hE
    have mk_135 : ∀ (h : Hp) (x0 : Nat) (x1 : Int32) (x2 : Int64) (x4 : Int64) (x6 : Int32) (x11 : Int32) (x12 : Int32), sX5_survey_135 F k_30 f h x0 x1 x2 x4 x6 x11 x12 = some o → Le h o := fun h x0 x1 x2 x4 x6 x11 x12 hE => ih hE
    obtain ⟨r_1, er_1, hE⟩ := cl_e hE
    obtain ⟨r_2, er_2, hE⟩ := cl_e hE
    obtain ⟨g_3, hE⟩ := gd_e hE
    rcases br_e hE with ⟨_, hE⟩ | ⟨_, hE⟩
    · exact moX5_survey_224 mk_30 hE
    · obtain ⟨r_5, er_5, hE⟩ := cl_e hE
      obtain ⟨r_6, er_6, hE⟩ := cl_e hE
      obtain ⟨g_7, hE⟩ := gd_e hE
      rcases br_e hE with ⟨_, hE⟩ | ⟨_, hE⟩
      · obtain ⟨r_9, er_9, hE⟩ := cl_e hE
        obtain ⟨r_10, er_10, hE⟩ := cl_e hE
        obtain ⟨g_11, hE⟩ := gd_e hE
        obtain ⟨h_12, eh_12, hE⟩ := nm_e2 hE
        refine (le_J eh_12).tr ?_
        rcases br_e hE with ⟨_, hE⟩ | ⟨_, hE⟩
        · exact moX5_survey_214 mk_30 mk_135 hE
        · obtain ⟨r_14, er_14, hE⟩ := cl_e hE
          obtain ⟨o_15, eo_15, hE⟩ := cl_e hE
          refine (moX10_isOpen eo_15).tr ?_
          rcases br_e hE with ⟨_, hE⟩ | ⟨_, hE⟩
          · exact moX5_survey_215 mk_30 mk_135 hE
          · exact moX5_survey_214 mk_30 mk_135 hE
      · exact moX5_survey_218 mk_30 mk_135 hE
set_option maxRecDepth 20000 in
theorem moX5_survey_30 {o : Hp} {F : Nat} : ∀ (f : Nat) {h : Hp} {x0 : Nat} {x1 : Int32} {x2 : Int64} {x4 : Int64} {x6 : Int32}, sX5_survey_30 F f h x0 x1 x2 x4 x6 = some o → Le h o := by
  intro f
  induction f with
  | zero =>
    intro h x0 x1 x2 x4 x6 hE
    rw [sX5_survey_30] at hE
    cases hE
  | succ f ih =>
    intro h x0 x1 x2 x4 x6 hE
    rw [sX5_survey_30] at hE
    have mk_30 : ∀ (h : Hp) (x0 : Nat) (x1 : Int32) (x2 : Int64) (x4 : Int64) (x6 : Int32), sX5_survey_30 F f h x0 x1 x2 x4 x6 = some o → Le h o := fun h x0 x1 x2 x4 x6 hE => ih hE
    rcases br_e hE with ⟨_, hE⟩ | ⟨_, hE⟩
    · exact moX5_survey_230 hE
    · rcases br_e hE with ⟨_, hE⟩ | ⟨_, hE⟩
      · exact moX5_survey_230 hE
      · obtain ⟨v_3, ev_3, hE⟩ := nm_e2 hE
        obtain ⟨v_4, ev_4, hE⟩ := nm_e2 hE
        obtain ⟨g_5, hE⟩ := gd_e hE
        obtain ⟨v_6, ev_6, hE⟩ := nm_e2 hE
        obtain ⟨r_7, er_7, hE⟩ := cl_e hE
        obtain ⟨r_8, er_8, hE⟩ := cl_e hE
        obtain ⟨g_9, hE⟩ := gd_e hE
        obtain ⟨v_10, ev_10, hE⟩ := nm_e2 hE
        obtain ⟨r_11, er_11, hE⟩ := cl_e hE
        obtain ⟨r_12, er_12, hE⟩ := cl_e hE
        obtain ⟨g_13, hE⟩ := gd_e hE
        rcases br_e hE with ⟨_, hE⟩ | ⟨_, hE⟩
        · exact moX5_survey_224 mk_30 hE
        · obtain ⟨o_15, eo_15, hE⟩ := cl_e hE
          refine (moX10_cell eo_15).tr ?_
          obtain ⟨r_16, er_16, hE⟩ := cl_e hE
          obtain ⟨r_17, er_17, hE⟩ := cl_e hE
          obtain ⟨g_18, hE⟩ := gd_e hE
          obtain ⟨v_19, ev_19, hE⟩ := nm_e2 hE
          exact moX5_survey_135 mk_30 _ hE
set_option maxRecDepth 20000 in
theorem moX5_survey {o : Hp} {F : Nat} {h : Hp} {x0 : Nat} {x1 : Int32} (hE : sX5_survey F h x0 x1 = some o) : Le h o := by
  obtain ⟨r_1, er_1, hE⟩ := cl_e hE
  obtain ⟨o_2, eo_2, hE⟩ := cl_e hE
  refine (moX3_occupied eo_2).tr ?_
  obtain ⟨r_3, er_3, hE⟩ := cl_e hE
  obtain ⟨r_4, er_4, hE⟩ := cl_e hE
  obtain ⟨r_5, er_5, hE⟩ := cl_e hE
  obtain ⟨g_6, hE⟩ := gd_e hE
  obtain ⟨v_7, ev_7, hE⟩ := nm_e2 hE
  exact moX5_survey_30 _ hE
set_option maxRecDepth 20000 in
theorem bX5_survey_230 {p : Program} {l : Launch} {e : Env} {s : State} {m : MethodId} {args : Array Value} {below : List Frame} {meth : Method} {c : Code} {X : Ec} {h0 : Hp} {o : Hp} {F : Nat} (C : Cx X p s m args meth c RX5 cX5_survey 13 none "survey") {h : Hp} {H : Heap} {locs : List Loc} (hkm : Km h0 h) (hW : Wx X h H) (hZ : va_S (aA (eB X)) s.heap H locs) (ls : Array Slot) (hl : lv_has ls 13 []) (hE : sX5_survey_230 F h  = some o) : W p l e (rm 1 25) s m args below meth c H locs 0 0 (MQ below (QV X h0 o) args s 0 0 (aA (eB X))) (F0 m 230 ls []) := by
  exact x_vret C rfl hW hZ hkm hE dX5_survey_230
set_option maxRecDepth 20000 in
theorem bX5_survey_224 {p : Program} {l : Launch} {e : Env} {s : State} {m : MethodId} {args : Array Value} {below : List Frame} {meth : Method} {c : Code} {X : Ec} {h0 : Hp} {o : Hp} {k_30 : Hp → Nat → Int32 → Int64 → Int64 → Int32 → Option (Hp)} {F : Nat} (C : Cx X p s m args meth c RX5 cX5_survey 13 none "survey") (hk_30 : ∀ (h : Hp) (x0 : Nat) (x1 : Int32) (x2 : Int64) (x4 : Int64) (x6 : Int32) (H : Heap) (locs : List Loc), hK h x0 = 5 → Km h0 h → Wx X h H → va_S (aA (eB X)) s.heap H locs → ∀ (ls : Array Slot), lv_has ls 13 [(0, .ref x0), (1, .int x1), (2, .long x2), (4, .long x4), (6, .int x6)] → k_30 h x0 x1 x2 x4 x6 = some o → W p l e (rm 1 25) s m args below meth c H locs 0 0 (MQ below (QV X h0 o) args s 0 0 (aA (eB X))) (F0 m 30 ls [])) {h : Hp} {x0 : Nat} {x1 : Int32} {x2 : Int64} {x4 : Int64} {x6 : Int32} {H : Heap} {locs : List Loc} (k_x0 : hK h x0 = 5) (hkm : Km h0 h) (hW : Wx X h H) (hZ : va_S (aA (eB X)) s.heap H locs) (ls : Array Slot) (hl : lv_has ls 13 [(0, .ref x0), (1, .int x1), (2, .long x2), (4, .long x4), (6, .int x6)]) (hE : sX5_survey_224 F k_30 h x0 x1 x2 x4 x6 = some o) : W p l e (rm 1 25) s m args below meth c H locs 0 0 (MQ below (QV X h0 o) args s 0 0 (aA (eB X))) (F0 m 224 ls []) := by
  obtain ⟨v_1, ev_1, hE⟩ := nm_e2 hE
  refine lv_iinc (v := v_1) (lv' := [(6, .int v_1), (0, .ref x0), (1, .int x1), (2, .long x2), (4, .long x4)]) C.1 C.2.1 dX5_survey_224 hl (k := 4) rfl (by rw [ev_1]; rfl) (by decide) rfl (fun ls hl => ?_)
  refine lv_goto (tgt := 30) C.1 C.2.1 dX5_survey_227 (by decide) ?_
  exact hk_30 _ _ _ _ _ _ _ _ k_x0 hkm hW hZ _ (lv_sub hl [1, 2, 3, 4, 0] rfl) hE
set_option maxRecDepth 20000 in
theorem bX5_survey_218 {p : Program} {l : Launch} {e : Env} {s : State} {m : MethodId} {args : Array Value} {below : List Frame} {meth : Method} {c : Code} {X : Ec} {h0 : Hp} {o : Hp} {k_30 : Hp → Nat → Int32 → Int64 → Int64 → Int32 → Option (Hp)} {k_135 : Hp → Nat → Int32 → Int64 → Int64 → Int32 → Int32 → Int32 → Option (Hp)} {F : Nat} (C : Cx X p s m args meth c RX5 cX5_survey 13 none "survey") (hk_30 : ∀ (h : Hp) (x0 : Nat) (x1 : Int32) (x2 : Int64) (x4 : Int64) (x6 : Int32) (H : Heap) (locs : List Loc), hK h x0 = 5 → Km h0 h → Wx X h H → va_S (aA (eB X)) s.heap H locs → ∀ (ls : Array Slot), lv_has ls 13 [(0, .ref x0), (1, .int x1), (2, .long x2), (4, .long x4), (6, .int x6)] → k_30 h x0 x1 x2 x4 x6 = some o → W p l e (rm 1 25) s m args below meth c H locs 0 0 (MQ below (QV X h0 o) args s 0 0 (aA (eB X))) (F0 m 30 ls [])) (hk_135 : ∀ (h : Hp) (x0 : Nat) (x1 : Int32) (x2 : Int64) (x4 : Int64) (x6 : Int32) (x11 : Int32) (x12 : Int32) (H : Heap) (locs : List Loc), hK h x0 = 5 → Km h0 h → Wx X h H → va_S (aA (eB X)) s.heap H locs → ∀ (ls : Array Slot), lv_has ls 13 [(0, .ref x0), (1, .int x1), (2, .long x2), (4, .long x4), (6, .int x6), (11, .int x11), (12, .int x12)] → k_135 h x0 x1 x2 x4 x6 x11 x12 = some o → W p l e (rm 1 25) s m args below meth c H locs 0 0 (MQ below (QV X h0 o) args s 0 0 (aA (eB X))) (F0 m 135 ls [])) {h : Hp} {x0 : Nat} {x1 : Int32} {x2 : Int64} {x4 : Int64} {x6 : Int32} {x11 : Int32} {x12 : Int32} {H : Heap} {locs : List Loc} (k_x0 : hK h x0 = 5) (hkm : Km h0 h) (hW : Wx X h H) (hZ : va_S (aA (eB X)) s.heap H locs) (ls : Array Slot) (hl : lv_has ls 13 [(0, .ref x0), (1, .int x1), (2, .long x2), (4, .long x4), (6, .int x6), (11, .int x11), (12, .int x12)]) (hE : sX5_survey_218 F k_30 k_135 h x0 x1 x2 x4 x6 x11 x12 = some o) : W p l e (rm 1 25) s m args below meth c H locs 0 0 (MQ below (QV X h0 o) args s 0 0 (aA (eB X))) (F0 m 218 ls []) := by
  obtain ⟨v_1, ev_1, hE⟩ := nm_e2 hE
  refine lv_iinc (v := v_1) (lv' := [(12, .int v_1), (0, .ref x0), (1, .int x1), (2, .long x2), (4, .long x4), (6, .int x6), (11, .int x11)]) C.1 C.2.1 dX5_survey_218 hl (k := 6) rfl (by rw [ev_1]; rfl) (by decide) rfl (fun ls hl => ?_)
  refine lv_goto (tgt := 135) C.1 C.2.1 dX5_survey_221 (by decide) ?_
  exact hk_135 _ _ _ _ _ _ _ _ _ _ k_x0 hkm hW hZ _ (lv_sub hl [1, 2, 3, 4, 5, 6, 0] rfl) hE
set_option maxRecDepth 20000 in
theorem bX5_survey_215 {p : Program} {l : Launch} {e : Env} {s : State} {m : MethodId} {args : Array Value} {below : List Frame} {meth : Method} {c : Code} {X : Ec} {h0 : Hp} {o : Hp} {k_30 : Hp → Nat → Int32 → Int64 → Int64 → Int32 → Option (Hp)} {k_135 : Hp → Nat → Int32 → Int64 → Int64 → Int32 → Int32 → Int32 → Option (Hp)} {F : Nat} (C : Cx X p s m args meth c RX5 cX5_survey 13 none "survey") (hk_30 : ∀ (h : Hp) (x0 : Nat) (x1 : Int32) (x2 : Int64) (x4 : Int64) (x6 : Int32) (H : Heap) (locs : List Loc), hK h x0 = 5 → Km h0 h → Wx X h H → va_S (aA (eB X)) s.heap H locs → ∀ (ls : Array Slot), lv_has ls 13 [(0, .ref x0), (1, .int x1), (2, .long x2), (4, .long x4), (6, .int x6)] → k_30 h x0 x1 x2 x4 x6 = some o → W p l e (rm 1 25) s m args below meth c H locs 0 0 (MQ below (QV X h0 o) args s 0 0 (aA (eB X))) (F0 m 30 ls [])) (hk_135 : ∀ (h : Hp) (x0 : Nat) (x1 : Int32) (x2 : Int64) (x4 : Int64) (x6 : Int32) (x11 : Int32) (x12 : Int32) (H : Heap) (locs : List Loc), hK h x0 = 5 → Km h0 h → Wx X h H → va_S (aA (eB X)) s.heap H locs → ∀ (ls : Array Slot), lv_has ls 13 [(0, .ref x0), (1, .int x1), (2, .long x2), (4, .long x4), (6, .int x6), (11, .int x11), (12, .int x12)] → k_135 h x0 x1 x2 x4 x6 x11 x12 = some o → W p l e (rm 1 25) s m args below meth c H locs 0 0 (MQ below (QV X h0 o) args s 0 0 (aA (eB X))) (F0 m 135 ls [])) {h : Hp} {x0 : Nat} {x1 : Int32} {x2 : Int64} {x4 : Int64} {x6 : Int32} {x11 : Int32} {x12 : Int32} {t0 : Int32} {t1 : Nat} {H : Heap} {locs : List Loc} (k_x0 : hK h x0 = 5) (k_t1 : hK h t1 = 5) (hkm : Km h0 h) (hW : Wx X h H) (hZ : va_S (aA (eB X)) s.heap H locs) (ls : Array Slot) (hl : lv_has ls 13 [(0, .ref x0), (1, .int x1), (2, .long x2), (4, .long x4), (6, .int x6), (11, .int x11), (12, .int x12)]) (hE : sX5_survey_215 F k_30 k_135 h x0 x1 x2 x4 x6 x11 x12 t0 t1 = some o) : W p l e (rm 1 25) s m args below meth c H locs 0 0 (MQ below (QV X h0 o) args s 0 0 (aA (eB X))) (F0 m 215 ls [.int t0, .ref t1]) := by
  obtain ⟨g_1, hE⟩ := gd_e hE
  obtain ⟨h_2, eh_2, hE⟩ := nm_e2 hE
  refine pf_X5_132 C hW hZ k_t1 (narB g_1) eh_2 dX5_survey_215 (fun _ _ hW km hZ => ?_)
  replace hkm := hkm.tr km
  replace k_x0 := km.at k_x0 (by decide)
  exact bX5_survey_218 C hk_30 hk_135 k_x0 hkm hW hZ _ (lv_sub hl [0, 1, 2, 3, 4, 5, 6] rfl) hE
set_option maxRecDepth 20000 in
theorem bX5_survey_214 {p : Program} {l : Launch} {e : Env} {s : State} {m : MethodId} {args : Array Value} {below : List Frame} {meth : Method} {c : Code} {X : Ec} {h0 : Hp} {o : Hp} {k_30 : Hp → Nat → Int32 → Int64 → Int64 → Int32 → Option (Hp)} {k_135 : Hp → Nat → Int32 → Int64 → Int64 → Int32 → Int32 → Int32 → Option (Hp)} {F : Nat} (C : Cx X p s m args meth c RX5 cX5_survey 13 none "survey") (hk_30 : ∀ (h : Hp) (x0 : Nat) (x1 : Int32) (x2 : Int64) (x4 : Int64) (x6 : Int32) (H : Heap) (locs : List Loc), hK h x0 = 5 → Km h0 h → Wx X h H → va_S (aA (eB X)) s.heap H locs → ∀ (ls : Array Slot), lv_has ls 13 [(0, .ref x0), (1, .int x1), (2, .long x2), (4, .long x4), (6, .int x6)] → k_30 h x0 x1 x2 x4 x6 = some o → W p l e (rm 1 25) s m args below meth c H locs 0 0 (MQ below (QV X h0 o) args s 0 0 (aA (eB X))) (F0 m 30 ls [])) (hk_135 : ∀ (h : Hp) (x0 : Nat) (x1 : Int32) (x2 : Int64) (x4 : Int64) (x6 : Int32) (x11 : Int32) (x12 : Int32) (H : Heap) (locs : List Loc), hK h x0 = 5 → Km h0 h → Wx X h H → va_S (aA (eB X)) s.heap H locs → ∀ (ls : Array Slot), lv_has ls 13 [(0, .ref x0), (1, .int x1), (2, .long x2), (4, .long x4), (6, .int x6), (11, .int x11), (12, .int x12)] → k_135 h x0 x1 x2 x4 x6 x11 x12 = some o → W p l e (rm 1 25) s m args below meth c H locs 0 0 (MQ below (QV X h0 o) args s 0 0 (aA (eB X))) (F0 m 135 ls [])) {h : Hp} {x0 : Nat} {x1 : Int32} {x2 : Int64} {x4 : Int64} {x6 : Int32} {x11 : Int32} {x12 : Int32} {t0 : Nat} {H : Heap} {locs : List Loc} (k_x0 : hK h x0 = 5) (k_t0 : hK h t0 = 5) (hkm : Km h0 h) (hW : Wx X h H) (hZ : va_S (aA (eB X)) s.heap H locs) (ls : Array Slot) (hl : lv_has ls 13 [(0, .ref x0), (1, .int x1), (2, .long x2), (4, .long x4), (6, .int x6), (11, .int x11), (12, .int x12)]) (hE : sX5_survey_214 F k_30 k_135 h x0 x1 x2 x4 x6 x11 x12 t0 = some o) : W p l e (rm 1 25) s m args below meth c H locs 0 0 (MQ below (QV X h0 o) args s 0 0 (aA (eB X))) (F0 m 214 ls [.ref t0]) := by
  refine lv_iconst (v := (0 : Int32)) C.1 C.2.1 dX5_survey_214 (by decide) ?_
  exact bX5_survey_215 C hk_30 hk_135 k_x0 k_t0 hkm hW hZ _ (lv_sub hl [0, 1, 2, 3, 4, 5, 6] rfl) hE
set_option maxRecDepth 20000 in
theorem bX5_survey_135 {p : Program} {l : Launch} {e : Env} {s : State} {m : MethodId} {args : Array Value} {below : List Frame} {meth : Method} {c : Code} {X : Ec} {h0 : Hp} {o : Hp} {k_30 : Hp → Nat → Int32 → Int64 → Int64 → Int32 → Option (Hp)} {F : Nat} (C : Cx X p s m args meth c RX5 cX5_survey 13 none "survey") (hk_30 : ∀ (h : Hp) (x0 : Nat) (x1 : Int32) (x2 : Int64) (x4 : Int64) (x6 : Int32) (H : Heap) (locs : List Loc), hK h x0 = 5 → Km h0 h → Wx X h H → va_S (aA (eB X)) s.heap H locs → ∀ (ls : Array Slot), lv_has ls 13 [(0, .ref x0), (1, .int x1), (2, .long x2), (4, .long x4), (6, .int x6)] → k_30 h x0 x1 x2 x4 x6 = some o → W p l e (rm 1 25) s m args below meth c H locs 0 0 (MQ below (QV X h0 o) args s 0 0 (aA (eB X))) (F0 m 30 ls [])) : ∀ (f : Nat) {h : Hp} {x0 : Nat} {x1 : Int32} {x2 : Int64} {x4 : Int64} {x6 : Int32} {x11 : Int32} {x12 : Int32} {H : Heap} {locs : List Loc} (k_x0 : hK h x0 = 5), Km h0 h → Wx X h H → va_S (aA (eB X)) s.heap H locs → ∀ (ls : Array Slot), lv_has ls 13 [(0, .ref x0), (1, .int x1), (2, .long x2), (4, .long x4), (6, .int x6), (11, .int x11), (12, .int x12)] → sX5_survey_135 F k_30 f h x0 x1 x2 x4 x6 x11 x12 = some o → W p l e (rm 1 25) s m args below meth c H locs 0 0 (MQ below (QV X h0 o) args s 0 0 (aA (eB X))) (F0 m 135 ls []) := by
  intro f
  induction f with
  | zero =>
    intro h x0 x1 x2 x4 x6 x11 x12 H locs k_x0 hkm hW hZ ls hl hE
    rw [sX5_survey_135] at hE
    cases hE
  | succ f ih =>
    intro h x0 x1 x2 x4 x6 x11 x12 H locs k_x0 hkm hW hZ ls hl hE
    rw [sX5_survey_135] at hE
    have hk_135 : ∀ (h : Hp) (x0 : Nat) (x1 : Int32) (x2 : Int64) (x4 : Int64) (x6 : Int32) (x11 : Int32) (x12 : Int32) (H : Heap) (locs : List Loc), hK h x0 = 5 → Km h0 h → Wx X h H → va_S (aA (eB X)) s.heap H locs → ∀ (ls : Array Slot), lv_has ls 13 [(0, .ref x0), (1, .int x1), (2, .long x2), (4, .long x4), (6, .int x6), (11, .int x11), (12, .int x12)] → sX5_survey_135 F k_30 f h x0 x1 x2 x4 x6 x11 x12 = some o → W p l e (rm 1 25) s m args below meth c H locs 0 0 (MQ below (QV X h0 o) args s 0 0 (aA (eB X))) (F0 m 135 ls []) := fun h x0 x1 x2 x4 x6 x11 x12 H locs k_x0 a b c ls hl hE => ih k_x0 a b c ls hl hE
    refine lv_iload C.1 C.2.1 dX5_survey_135 (lv_at hl 6 rfl) ?_
    refine lv_aload_n C.1 C.2.1 dX5_survey_137 rfl (lv_at hl 0 rfl) ?_
    obtain ⟨r_1, er_1, hE⟩ := cl_e hE
    refine gf_X5_26 C hW k_x0 er_1 dX5_survey_138 (fun k_r_1 => ?_)
    obtain ⟨r_2, er_2, hE⟩ := cl_e hE
    refine gf_X5_51 C hW k_r_1 er_2 dX5_survey_141 (fun k_r_2 => ?_)
    refine lv_iload C.1 C.2.1 dX5_survey_144 (lv_at hl 5 rfl) ?_
    refine lv_iconst (v := (1 : Int32)) C.1 C.2.1 dX5_survey_146 (by decide) ?_
    refine lv_iadd C.1 C.2.1 dX5_survey_147 ?_
    obtain ⟨g_3, hE⟩ := gd_e hE
    refine y_iald C hW k_r_2 g_3 dX5_survey_148 ?_
    refine lv_icmp_ge (tgt := 224) C.1 C.2.1 dX5_survey_149 (by decide) (fun c_4 => ?_) (fun c_4 => ?_)
    · have hE := br_p hE c_4
      exact bX5_survey_224 C hk_30 k_x0 hkm hW hZ _ (lv_sub hl [0, 1, 2, 3, 4] rfl) hE
    · have hE := br_n hE c_4
      refine lv_aload_n C.1 C.2.1 dX5_survey_152 rfl (lv_at hl 0 rfl) ?_
      obtain ⟨r_5, er_5, hE⟩ := cl_e hE
      refine gf_X5_26 C hW k_x0 er_5 dX5_survey_153 (fun k_r_5 => ?_)
      obtain ⟨r_6, er_6, hE⟩ := cl_e hE
      refine gf_X5_54 C hW k_r_5 er_6 dX5_survey_156 (fun k_r_6 => ?_)
      refine lv_iload C.1 C.2.1 dX5_survey_159 (lv_at hl 6 rfl) ?_
      obtain ⟨g_7, hE⟩ := gd_e hE
      refine y_iald C hW k_r_6 g_7 dX5_survey_161 ?_
      refine lv_bipush (v := (6 : Int32)) C.1 C.2.1 dX5_survey_162 (by decide) ?_
      refine lv_ishr C.1 C.2.1 dX5_survey_164 ?_
      refine lv_iconst (v := (1 : Int32)) C.1 C.2.1 dX5_survey_165 (by decide) ?_
      refine lv_iand C.1 C.2.1 dX5_survey_166 ?_
      refine lv_if_ne (tgt := 218) C.1 C.2.1 dX5_survey_167 (by decide) (fun c_8 => ?_) (fun c_8 => ?_)
      · have hE := br_n hE c_8
        exact bX5_survey_218 C hk_30 hk_135 k_x0 hkm hW hZ _ (lv_sub hl [0, 1, 2, 3, 4, 5, 6] rfl) hE
      · have hE := br_p hE c_8
        refine lv_aload_n C.1 C.2.1 dX5_survey_170 rfl (lv_at hl 0 rfl) ?_
        refine lv_dup C.1 C.2.1 dX5_survey_171 rfl ?_
        refine gf_X5_126 C hW k_x0 dX5_survey_172 ?_
        refine lv_aload_n C.1 C.2.1 dX5_survey_175 rfl (lv_at hl 0 rfl) ?_
        obtain ⟨r_9, er_9, hE⟩ := cl_e hE
        refine gf_X5_26 C hW k_x0 er_9 dX5_survey_176 (fun k_r_9 => ?_)
        obtain ⟨r_10, er_10, hE⟩ := cl_e hE
        refine gf_X5_57 C hW k_r_9 er_10 dX5_survey_179 (fun k_r_10 => ?_)
        refine lv_iload C.1 C.2.1 dX5_survey_182 (lv_at hl 6 rfl) ?_
        obtain ⟨g_11, hE⟩ := gd_e hE
        refine y_lald C hW k_r_10 g_11 dX5_survey_184 ?_
        refine lv_lor C.1 C.2.1 dX5_survey_185 ?_
        obtain ⟨h_12, eh_12, hE⟩ := nm_e2 hE
        refine pf_X5_126 C hW hZ k_x0 eh_12 dX5_survey_186 (fun _ _ hW km hZ => ?_)
        replace hkm := hkm.tr km
        replace k_x0 := km.at k_x0 (by decide)
        refine lv_aload_n C.1 C.2.1 dX5_survey_189 rfl (lv_at hl 0 rfl) ?_
        refine lv_aload_n C.1 C.2.1 dX5_survey_190 rfl (lv_at hl 0 rfl) ?_
        refine gf_X5_132 C hW k_x0 dX5_survey_191 ?_
        refine lv_if_eq (tgt := 214) C.1 C.2.1 dX5_survey_194 (by decide) (fun c_13 => ?_) (fun c_13 => ?_)
        · have hE := br_p hE c_13
          exact bX5_survey_214 C hk_30 hk_135 k_x0 k_x0 hkm hW hZ _ (lv_sub hl [0, 1, 2, 3, 4, 5, 6] rfl) hE
        · have hE := br_n hE c_13
          refine lv_aload_n C.1 C.2.1 dX5_survey_197 rfl (lv_at hl 0 rfl) ?_
          obtain ⟨r_14, er_14, hE⟩ := cl_e hE
          refine gf_X5_26 C hW k_x0 er_14 dX5_survey_198 (fun k_r_14 => ?_)
          refine lv_iload C.1 C.2.1 dX5_survey_201 (lv_at hl 6 rfl) ?_
          refine lv_lload_n C.1 C.2.1 dX5_survey_203 rfl (lv_at hl 2 rfl) ?_
          obtain ⟨o_15, eo_15, hE⟩ := cl_e hE
          refine x_kI (o := o_15) (z_runV (As := [.int x12, .long x2]) (rest := [.ref x0]) C (ct_X10_isOpen l X k_r_14 eo_15) cw_X5_146 hW hZ k_r_14 (by decide) rfl rfl rfl hl.1 (Nat.le_of_ble_eq_true rfl) rfl dX5_survey_204 ⟨Nat.le_of_ble_eq_true rfl, Nat.le_of_ble_eq_true rfl⟩ ⟨Nat.le_refl _, Nat.le_refl _⟩) hZ (fun _ _ hW km hZ => ?_)
          replace hkm := hkm.tr km
          replace k_x0 := km.at k_x0 (by decide)
          refine lv_if_ne (tgt := 214) C.1 C.2.1 dX5_survey_207 (by decide) (fun c_16 => ?_) (fun c_16 => ?_)
          · have hE := br_n hE c_16
            exact bX5_survey_214 C hk_30 hk_135 k_x0 k_x0 hkm hW hZ _ (lv_sub hl [0, 1, 2, 3, 4, 5, 6] rfl) hE
          · have hE := br_p hE c_16
            refine lv_iconst (v := (1 : Int32)) C.1 C.2.1 dX5_survey_210 (by decide) ?_
            refine lv_goto (tgt := 215) C.1 C.2.1 dX5_survey_211 (by decide) ?_
            exact bX5_survey_215 C hk_30 hk_135 k_x0 k_x0 hkm hW hZ _ (lv_sub hl [0, 1, 2, 3, 4, 5, 6] rfl) hE
set_option maxRecDepth 20000 in
theorem bX5_survey_30 {p : Program} {l : Launch} {e : Env} {s : State} {m : MethodId} {args : Array Value} {below : List Frame} {meth : Method} {c : Code} {X : Ec} {h0 : Hp} {o : Hp} {F : Nat} (C : Cx X p s m args meth c RX5 cX5_survey 13 none "survey") : ∀ (f : Nat) {h : Hp} {x0 : Nat} {x1 : Int32} {x2 : Int64} {x4 : Int64} {x6 : Int32} {H : Heap} {locs : List Loc} (k_x0 : hK h x0 = 5), Km h0 h → Wx X h H → va_S (aA (eB X)) s.heap H locs → ∀ (ls : Array Slot), lv_has ls 13 [(0, .ref x0), (1, .int x1), (2, .long x2), (4, .long x4), (6, .int x6)] → sX5_survey_30 F f h x0 x1 x2 x4 x6 = some o → W p l e (rm 1 25) s m args below meth c H locs 0 0 (MQ below (QV X h0 o) args s 0 0 (aA (eB X))) (F0 m 30 ls []) := by
  intro f
  induction f with
  | zero =>
    intro h x0 x1 x2 x4 x6 H locs k_x0 hkm hW hZ ls hl hE
    rw [sX5_survey_30] at hE
    cases hE
  | succ f ih =>
    intro h x0 x1 x2 x4 x6 H locs k_x0 hkm hW hZ ls hl hE
    rw [sX5_survey_30] at hE
    have hk_30 : ∀ (h : Hp) (x0 : Nat) (x1 : Int32) (x2 : Int64) (x4 : Int64) (x6 : Int32) (H : Heap) (locs : List Loc), hK h x0 = 5 → Km h0 h → Wx X h H → va_S (aA (eB X)) s.heap H locs → ∀ (ls : Array Slot), lv_has ls 13 [(0, .ref x0), (1, .int x1), (2, .long x2), (4, .long x4), (6, .int x6)] → sX5_survey_30 F f h x0 x1 x2 x4 x6 = some o → W p l e (rm 1 25) s m args below meth c H locs 0 0 (MQ below (QV X h0 o) args s 0 0 (aA (eB X))) (F0 m 30 ls []) := fun h x0 x1 x2 x4 x6 H locs k_x0 a b c ls hl hE => ih k_x0 a b c ls hl hE
    refine lv_iload C.1 C.2.1 dX5_survey_30 (lv_at hl 4 rfl) ?_
    refine lv_bipush (v := (64 : Int32)) C.1 C.2.1 dX5_survey_32 (by decide) ?_
    refine lv_icmp_ge (tgt := 230) C.1 C.2.1 dX5_survey_34 (by decide) (fun c_1 => ?_) (fun c_1 => ?_)
    · have hE := br_p hE c_1
      exact bX5_survey_230 C hkm hW hZ _ (lv_sub hl [] rfl) hE
    · have hE := br_n hE c_1
      refine lv_lload C.1 C.2.1 dX5_survey_37 (lv_at hl 3 rfl) ?_
      refine lv_lconst (v := (0 : Int64)) C.1 C.2.1 dX5_survey_39 (by decide) ?_
      refine W.lcmp C.1 C.2.1 dX5_survey_40 ?_
      refine lv_if_eq (tgt := 230) C.1 C.2.1 dX5_survey_41 (by decide) (fun c_2 => ?_) (fun c_2 => ?_)
      · have hE := br_p hE c_2
        exact bX5_survey_230 C hkm hW hZ _ (lv_sub hl [] rfl) hE
      · have hE := br_n hE c_2
        refine lv_lload C.1 C.2.1 dX5_survey_44 (lv_at hl 3 rfl) ?_
        refine lv_lload C.1 C.2.1 dX5_survey_46 (lv_at hl 3 rfl) ?_
        refine lv_lneg C.1 C.2.1 dX5_survey_48 ?_
        refine lv_land C.1 C.2.1 dX5_survey_49 ?_
        obtain ⟨v_3, ev_3, hE⟩ := nm_e2 hE
        refine x_nmJ ev_3 ?_
        refine lv_lstore (lv' := [(7, .long v_3), (0, .ref x0), (1, .int x1), (2, .long x2), (4, .long x4), (6, .int x6)]) C.1 C.2.1 dX5_survey_50 hl (by decide) rfl (fun ls hl => ?_)
        refine lv_lload C.1 C.2.1 dX5_survey_52 (lv_at hl 4 rfl) ?_
        refine lv_lload C.1 C.2.1 dX5_survey_54 (lv_at hl 0 rfl) ?_
        refine lv_lxor C.1 C.2.1 dX5_survey_56 ?_
        obtain ⟨v_4, ev_4, hE⟩ := nm_e2 hE
        refine x_nmJ ev_4 ?_
        refine lv_lstore (lv' := [(4, .long v_4), (7, .long v_3), (0, .ref x0), (1, .int x1), (2, .long x2), (6, .int x6)]) C.1 C.2.1 dX5_survey_57 hl (by decide) rfl (fun ls hl => ?_)
        refine y_sqN C hZ n_1074 dX5_survey_59 ?_
        refine lv_lload C.1 C.2.1 dX5_survey_62 (lv_at hl 1 rfl) ?_
        refine lv_ldc2 (v := (285870213051386505 : Int64)) C.1 C.2.1 C.2.2.2.1 (C.2.2.2.2.1 _ m_1075) dX5_survey_64 ?_
        refine lv_lmul C.1 C.2.1 dX5_survey_67 ?_
        refine lv_bipush (v := (58 : Int32)) C.1 C.2.1 dX5_survey_68 (by decide) ?_
        refine lv_lushr C.1 C.2.1 dX5_survey_70 rfl ?_
        refine lv_l2i C.1 C.2.1 dX5_survey_71 rfl ?_
        obtain ⟨g_5, hE⟩ := gd_e hE
        refine y_sqld C hZ g_5 dX5_survey_72 ?_
        obtain ⟨v_6, ev_6, hE⟩ := nm_e2 hE
        refine x_nmI ev_6 ?_
        refine lv_istore (lv' := [(9, .int v_6), (4, .long v_4), (7, .long v_3), (0, .ref x0), (1, .int x1), (2, .long x2), (6, .int x6)]) C.1 C.2.1 dX5_survey_73 hl (by decide) rfl (fun ls hl => ?_)
        refine lv_aload_n C.1 C.2.1 dX5_survey_75 rfl (lv_at hl 3 rfl) ?_
        obtain ⟨r_7, er_7, hE⟩ := cl_e hE
        refine gf_X5_71 C hW k_x0 er_7 dX5_survey_76 (fun k_r_7 => ?_)
        obtain ⟨r_8, er_8, hE⟩ := cl_e hE
        refine gf_X5_42 C hW k_r_7 er_8 dX5_survey_79 (fun k_r_8 => ?_)
        refine lv_iload C.1 C.2.1 dX5_survey_82 (lv_at hl 0 rfl) ?_
        obtain ⟨g_9, hE⟩ := gd_e hE
        refine y_bald C hW k_r_8 g_9 dX5_survey_84 ?_
        obtain ⟨v_10, ev_10, hE⟩ := nm_e2 hE
        refine x_nmI ev_10 ?_
        refine lv_istore (lv' := [(10, .int v_10), (9, .int v_6), (4, .long v_4), (7, .long v_3), (0, .ref x0), (1, .int x1), (2, .long x2), (6, .int x6)]) C.1 C.2.1 dX5_survey_85 hl (by decide) rfl (fun ls hl => ?_)
        refine lv_aload_n C.1 C.2.1 dX5_survey_87 rfl (lv_at hl 4 rfl) ?_
        obtain ⟨r_11, er_11, hE⟩ := cl_e hE
        refine gf_X5_26 C hW k_x0 er_11 dX5_survey_88 (fun k_r_11 => ?_)
        obtain ⟨r_12, er_12, hE⟩ := cl_e hE
        refine gf_X5_46 C hW k_r_11 er_12 dX5_survey_91 (fun k_r_12 => ?_)
        refine lv_iload C.1 C.2.1 dX5_survey_94 (lv_at hl 0 rfl) ?_
        refine lv_bipush (v := (64 : Int32)) C.1 C.2.1 dX5_survey_96 (by decide) ?_
        refine lv_imul C.1 C.2.1 dX5_survey_98 ?_
        refine lv_iload_n C.1 C.2.1 dX5_survey_99 rfl (lv_at hl 5 rfl) ?_
        refine lv_iadd C.1 C.2.1 dX5_survey_100 ?_
        obtain ⟨g_13, hE⟩ := gd_e hE
        refine y_lald C hW k_r_12 g_13 dX5_survey_101 ?_
        refine lv_lload C.1 C.2.1 dX5_survey_102 (lv_at hl 3 rfl) ?_
        refine lv_land C.1 C.2.1 dX5_survey_104 ?_
        refine lv_lconst (v := (0 : Int64)) C.1 C.2.1 dX5_survey_105 (by decide) ?_
        refine W.lcmp C.1 C.2.1 dX5_survey_106 ?_
        refine lv_if_ne (tgt := 113) C.1 C.2.1 dX5_survey_107 (by decide) (fun c_14 => ?_) (fun c_14 => ?_)
        · have hE := br_n hE c_14
          refine lv_iload C.1 C.2.1 dX5_survey_113 (lv_at hl 0 rfl) ?_
          refine lv_iload C.1 C.2.1 dX5_survey_115 (lv_at hl 1 rfl) ?_
          refine lv_iload_n C.1 C.2.1 dX5_survey_117 rfl (lv_at hl 5 rfl) ?_
          obtain ⟨o_15, eo_15, hE⟩ := cl_e hE
          refine x_kI (o := o_15) (z_runS (As := [.int v_10, .int v_6, .int x1]) (rest := []) C (ct_X10_cell l X eo_15) cw_X5_142 hW hZ rfl hl.1 (Nat.le_of_ble_eq_true rfl) rfl dX5_survey_118 ⟨Nat.le_of_ble_eq_true rfl, Nat.le_of_ble_eq_true rfl⟩ ⟨Nat.le_refl _, Nat.le_refl _⟩) hZ (fun _ _ hW km hZ => ?_)
          replace hkm := hkm.tr km
          replace k_x0 := km.at k_x0 (by decide)
          refine lv_istore (lv' := [(11, .int o_15.1), (10, .int v_10), (9, .int v_6), (4, .long v_4), (7, .long v_3), (0, .ref x0), (1, .int x1), (2, .long x2), (6, .int x6)]) C.1 C.2.1 dX5_survey_121 hl (by decide) rfl (fun ls hl => ?_)
          refine lv_aload_n C.1 C.2.1 dX5_survey_123 rfl (lv_at hl 5 rfl) ?_
          obtain ⟨r_16, er_16, hE⟩ := cl_e hE
          refine gf_X5_26 C hW k_x0 er_16 dX5_survey_124 (fun k_r_16 => ?_)
          obtain ⟨r_17, er_17, hE⟩ := cl_e hE
          refine gf_X5_51 C hW k_r_16 er_17 dX5_survey_127 (fun k_r_17 => ?_)
          refine lv_iload C.1 C.2.1 dX5_survey_130 (lv_at hl 0 rfl) ?_
          obtain ⟨g_18, hE⟩ := gd_e hE
          refine y_iald C hW k_r_17 g_18 dX5_survey_132 ?_
          obtain ⟨v_19, ev_19, hE⟩ := nm_e2 hE
          refine x_nmI ev_19 ?_
          refine lv_istore (lv' := [(12, .int v_19), (11, .int o_15.1), (10, .int v_10), (9, .int v_6), (4, .long v_4), (7, .long v_3), (0, .ref x0), (1, .int x1), (2, .long x2), (6, .int x6)]) C.1 C.2.1 dX5_survey_133 hl (by decide) rfl (fun ls hl => ?_)
          exact bX5_survey_135 C hk_30 F k_x0 hkm hW hZ _ (lv_sub hl [6, 7, 8, 4, 9, 1, 0] rfl) hE
        · have hE := br_p hE c_14
          refine lv_goto (tgt := 224) C.1 C.2.1 dX5_survey_110 (by decide) ?_
          exact bX5_survey_224 C hk_30 k_x0 hkm hW hZ _ (lv_sub hl [4, 5, 6, 2, 7] rfl) hE
set_option maxRecDepth 20000 in
theorem ct_X5_survey (l : Launch) (X : Ec) (F : Nat) {h : Hp} {x0 : Nat} {x1 : Int32} {o : Hp} (k_x0 : hK h x0 = 5) (hE : sX5_survey F h x0 x1 = some o) : MetV l yX5_survey cX5_survey 13 none 1 25 X [.ref x0, .int x1] h o := by
  refine x_met (by decide) (Nat.le_of_ble_eq_true rfl) ?_
  intro p e s m below meth c ls C hl hW hZ
  have hl : lv_has ls 13 [(0, .ref x0), (1, .int x1)] := hl
  have hkm : Km h h := Km.rf h
  refine lv_aload_n C.1 C.2.1 dX5_survey_0 rfl (lv_at hl 0 rfl) ?_
  obtain ⟨r_1, er_1, hE⟩ := cl_e hE
  refine gf_X5_71 C hW k_x0 er_1 dX5_survey_1 (fun k_r_1 => ?_)
  obtain ⟨o_2, eo_2, hE⟩ := cl_e hE
  refine x_kJ (o := o_2) (z_runV (As := []) (rest := []) C (ct_X3_occupied l X k_r_1 eo_2) cw_X5_138 hW hZ k_r_1 (by decide) rfl rfl rfl hl.1 (Nat.le_of_ble_eq_true rfl) rfl dX5_survey_4 ⟨Nat.le_of_ble_eq_true rfl, Nat.le_of_ble_eq_true rfl⟩ ⟨Nat.le_refl _, Nat.le_refl _⟩) hZ (fun _ _ hW km hZ => ?_)
  replace hkm := hkm.tr km
  replace k_x0 := km.at k_x0 (by decide)
  refine lv_lstore_n (lv' := [(2, .long o_2.1), (0, .ref x0), (1, .int x1)]) C.1 C.2.1 dX5_survey_7 rfl hl (by decide) rfl (fun ls hl => ?_)
  refine lv_aload_n C.1 C.2.1 dX5_survey_8 rfl (lv_at hl 1 rfl) ?_
  obtain ⟨r_3, er_3, hE⟩ := cl_e hE
  refine gf_X5_71 C hW k_x0 er_3 dX5_survey_9 (fun k_r_3 => ?_)
  obtain ⟨r_4, er_4, hE⟩ := cl_e hE
  refine gf_X5_33 C hW k_r_3 er_4 dX5_survey_12 (fun k_r_4 => ?_)
  refine lv_iconst (v := (1 : Int32)) C.1 C.2.1 dX5_survey_15 (by decide) ?_
  refine lv_aload_n C.1 C.2.1 dX5_survey_16 rfl (lv_at hl 1 rfl) ?_
  obtain ⟨r_5, er_5, hE⟩ := cl_e hE
  refine gf_X5_71 C hW k_x0 er_5 dX5_survey_17 (fun k_r_5 => ?_)
  refine gf_X5_78 C hW k_r_5 dX5_survey_20 ?_
  refine lv_isub C.1 C.2.1 dX5_survey_23 ?_
  obtain ⟨g_6, hE⟩ := gd_e hE
  refine y_lald C hW k_r_4 g_6 dX5_survey_24 ?_
  obtain ⟨v_7, ev_7, hE⟩ := nm_e2 hE
  refine x_nmJ ev_7 ?_
  refine lv_lstore (lv' := [(4, .long v_7), (2, .long o_2.1), (0, .ref x0), (1, .int x1)]) C.1 C.2.1 dX5_survey_25 hl (by decide) rfl (fun ls hl => ?_)
  refine lv_iconst (v := (0 : Int32)) C.1 C.2.1 dX5_survey_27 (by decide) ?_
  refine lv_istore (lv' := [(6, .int (0 : Int32)), (4, .long v_7), (2, .long o_2.1), (0, .ref x0), (1, .int x1)]) C.1 C.2.1 dX5_survey_28 hl (by decide) rfl (fun ls hl => ?_)
  exact bX5_survey_30 C F k_x0 hkm hW hZ _ (lv_sub hl [3, 4, 2, 1, 0] rfl) hE
set_option maxRecDepth 100000 in
theorem ms_50 : Cond.selects RX5 yX5_survey yX5_survey ∈ W0 := w0_in (List.mem_append_left _ (List.mem_of_getElem? (i := 50) rfl)) rfl
set_option maxRecDepth 100000 in
theorem m_350 : Cond.fieldLink RX5 123 (TX5 5).1 (TX5 5).2.1 (TX5 5).2.2.1 ∈ W0 := w0_in (List.mem_append_right _ (List.mem_of_getElem? (i := 350) rfl)) rfl
set_option maxRecDepth 100000 in
theorem m_351 : Cond.fieldLink RX5 82 (TX5 6).1 (TX5 6).2.1 (TX5 6).2.2.1 ∈ W0 := w0_in (List.mem_append_right _ (List.mem_of_getElem? (i := 351) rfl)) rfl
set_option maxRecDepth 100000 in
theorem m_352 : Cond.fieldLink RX5 116 (TX5 7).1 (TX5 7).2.1 (TX5 7).2.2.1 ∈ W0 := w0_in (List.mem_append_right _ (List.mem_of_getElem? (i := 352) rfl)) rfl
set_option maxRecDepth 100000 in
theorem m_1145 : Cond.methodLink RX5 135 yX5_survey ∈ W0 := w0_in (List.mem_append_right _ (List.mem_of_getElem? (i := 1145) rfl)) rfl
set_option maxRecDepth 100000 in
theorem m_1147 : Cond.instanceMethod yX5_survey ∈ W0 := w0_in (List.mem_append_right _ (List.mem_of_getElem? (i := 1147) rfl)) rfl
set_option maxRecDepth 100000 in
theorem m_1148 : Cond.code yX5_survey cX5_survey 13 none ∈ W0 := w0_in (List.mem_append_right _ (List.mem_of_getElem? (i := 1148) rfl)) rfl
section
variable {p : Program} {l : Launch} {e : Env} {R : Room} {s : State} {m : MethodId} {args : Array Value} {below : List Frame} {meth : Method} {c : Code} {H : Heap} {locs : List Loc} {cells slots : Nat} {Q : State → Prop}
variable {cc : ByteArray} {pc : Nat} {ls : Array Slot} {rest : List Value} {X : Ec} {h h1 : Hp} {nL : Nat} {rt : Option FieldType} {mn : String}
theorem pf_X5_71 {a r : Nat} (C : Cx X p s m args meth c RX5 cc nL rt mn) (hW : Wx X h H) (hZ : va_S (aA (eB X)) s.heap H locs) (ha : hK h a = 5) (hr : hK h r = 3) (eh : h1 = wR h a 4 (some r)) (hdg : decode cc pc = .ok (.putfield 71, 3)) (kk : ∀ (H1 : Heap) (locs1 : List Loc), Wx X h1 H1 → Km h h1 → va_S (aA (eB X)) s.heap H1 locs1 → W p l e R s m args below meth c H1 locs1 cells slots Q (F0 m (pc + 3) ls rest)) : W p l e R s m args below meth c H locs cells slots Q (F0 m pc ls (.ref r :: .ref a :: rest)) :=
  y_putr (ty := .object "GameRules$Position") C hW hZ ha i_X5 tyX5 tyX5_ok nmX5 (by decide) rfl rfl (by decide) m_349 rfl (by decide +kernel) rfl rfl rfl hr rfl (by decide) eh hdg kk
theorem pf_X5_123 {a r : Nat} (C : Cx X p s m args meth c RX5 cc nL rt mn) (hW : Wx X h H) (hZ : va_S (aA (eB X)) s.heap H locs) (ha : hK h a = 5) (hr : hK h r = 17) (eh : h1 = wR h a 5 (some r)) (hdg : decode cc pc = .ok (.putfield 123, 3)) (kk : ∀ (H1 : Heap) (locs1 : List Loc), Wx X h1 H1 → Km h h1 → va_S (aA (eB X)) s.heap H1 locs1 → W p l e R s m args below meth c H1 locs1 cells slots Q (F0 m (pc + 3) ls rest)) : W p l e R s m args below meth c H locs cells slots Q (F0 m pc ls (.ref r :: .ref a :: rest)) :=
  y_putr (ty := .array .int) C hW hZ ha i_X5 tyX5 tyX5_ok nmX5 (by decide) rfl rfl (by decide) m_350 rfl (by decide +kernel) rfl rfl rfl hr rfl (by decide) eh hdg kk
theorem pf_X5_82 {a : Nat} {v : Int32} (C : Cx X p s m args meth c RX5 cc nL rt mn) (hW : Wx X h H) (hZ : va_S (aA (eB X)) s.heap H locs) (ha : hK h a = 5) (eh : h1 = wI h a 6 v) (hdg : decode cc pc = .ok (.putfield 82, 3)) (kk : ∀ (H1 : Heap) (locs1 : List Loc), Wx X h1 H1 → Km h h1 → va_S (aA (eB X)) s.heap H1 locs1 → W p l e R s m args below meth c H1 locs1 cells slots Q (F0 m (pc + 3) ls rest)) : W p l e R s m args below meth c H locs cells slots Q (F0 m pc ls (.int v :: .ref a :: rest)) :=
  y_puti (ty := .int) C hW hZ ha i_X5 tyX5 tyX5_ok nmX5 (by decide) rfl rfl (by decide) m_351 rfl (by decide +kernel) rfl rfl rfl eh hdg kk
theorem pf_X5_116 {a : Nat} {v : Int32} (C : Cx X p s m args meth c RX5 cc nL rt mn) (hW : Wx X h H) (hZ : va_S (aA (eB X)) s.heap H locs) (ha : hK h a = 5) (hn : narrow .boolean (.int v) = .int v) (eh : h1 = wI h a 7 v) (hdg : decode cc pc = .ok (.putfield 116, 3)) (kk : ∀ (H1 : Heap) (locs1 : List Loc), Wx X h1 H1 → Km h h1 → va_S (aA (eB X)) s.heap H1 locs1 → W p l e R s m args below meth c H1 locs1 cells slots Q (F0 m (pc + 3) ls rest)) : W p l e R s m args below meth c H locs cells slots Q (F0 m pc ls (.int v :: .ref a :: rest)) :=
  y_puti (ty := .boolean) C hW hZ ha i_X5 tyX5 tyX5_ok nmX5 (by decide) rfl rfl (by decide) m_352 rfl (by decide +kernel) rfl hn (fitZ hn) eh hdg kk
end
theorem cw_X5_135 : cwd RX5 135 yX5_survey cX5_survey 13 none false 1 := ⟨m_1148, m_1145, m_7, ⟨m_1147, ms_50⟩, by decide, by decide, by decide +kernel⟩
theorem dX5_begin_0 : decode cX5_begin 0 = .ok (.aload_n 0, 1) := by decide +kernel
theorem dX5_begin_1 : decode cX5_begin 1 = .ok (.aload_n 1, 1) := by decide +kernel
theorem dX5_begin_2 : decode cX5_begin 2 = .ok (.putfield 71, 3) := by decide +kernel
theorem dX5_begin_5 : decode cX5_begin 5 = .ok (.aload_n 0, 1) := by decide +kernel
theorem dX5_begin_6 : decode cX5_begin 6 = .ok (.aload_n 2, 1) := by decide +kernel
theorem dX5_begin_7 : decode cX5_begin 7 = .ok (.putfield 123, 3) := by decide +kernel
theorem dX5_begin_10 : decode cX5_begin 10 = .ok (.aload_n 0, 1) := by decide +kernel
theorem dX5_begin_11 : decode cX5_begin 11 = .ok (.iconst 0, 1) := by decide +kernel
theorem dX5_begin_12 : decode cX5_begin 12 = .ok (.putfield 82, 3) := by decide +kernel
theorem dX5_begin_15 : decode cX5_begin 15 = .ok (.aload_n 0, 1) := by decide +kernel
theorem dX5_begin_16 : decode cX5_begin 16 = .ok (.iconst 0, 1) := by decide +kernel
theorem dX5_begin_17 : decode cX5_begin 17 = .ok (.putfield 116, 3) := by decide +kernel
theorem dX5_begin_20 : decode cX5_begin 20 = .ok (.aload_n 0, 1) := by decide +kernel
theorem dX5_begin_21 : decode cX5_begin 21 = .ok (.lconst 0, 1) := by decide +kernel
theorem dX5_begin_22 : decode cX5_begin 22 = .ok (.putfield 126, 3) := by decide +kernel
theorem dX5_begin_25 : decode cX5_begin 25 = .ok (.aload_n 0, 1) := by decide +kernel
theorem dX5_begin_26 : decode cX5_begin 26 = .ok (.aload_n 0, 1) := by decide +kernel
theorem dX5_begin_27 : decode cX5_begin 27 = .ok (.getfield 22, 3) := by decide +kernel
theorem dX5_begin_30 : decode cX5_begin 30 = .ok (.getfield 129, 3) := by decide +kernel
theorem dX5_begin_33 : decode cX5_begin 33 = .ok (.iconst (-1), 1) := by decide +kernel
theorem dX5_begin_34 : decode cX5_begin 34 = .ok (.if_icmp .eq 15, 3) := by decide +kernel
theorem dX5_begin_37 : decode cX5_begin 37 = .ok (.aload_n 0, 1) := by decide +kernel
theorem dX5_begin_38 : decode cX5_begin 38 = .ok (.getfield 22, 3) := by decide +kernel
theorem dX5_begin_41 : decode cX5_begin 41 = .ok (.bipush 12, 2) := by decide +kernel
theorem dX5_begin_43 : decode cX5_begin 43 = .ok (.invokevirtual 104, 3) := by decide +kernel
theorem dX5_begin_46 : decode cX5_begin 46 = .ok (.ifCond .ne 7, 3) := by decide +kernel
theorem dX5_begin_49 : decode cX5_begin 49 = .ok (.iconst 1, 1) := by decide +kernel
theorem dX5_begin_50 : decode cX5_begin 50 = .ok (.goto 4, 3) := by decide +kernel
theorem dX5_begin_53 : decode cX5_begin 53 = .ok (.iconst 0, 1) := by decide +kernel
theorem dX5_begin_54 : decode cX5_begin 54 = .ok (.putfield 132, 3) := by decide +kernel
theorem dX5_begin_57 : decode cX5_begin 57 = .ok (.aload_n 0, 1) := by decide +kernel
theorem dX5_begin_58 : decode cX5_begin 58 = .ok (.getfield 132, 3) := by decide +kernel
theorem dX5_begin_61 : decode cX5_begin 61 = .ok (.ifCond .eq 41, 3) := by decide +kernel
theorem dX5_begin_64 : decode cX5_begin 64 = .ok (.aload_n 0, 1) := by decide +kernel
theorem dX5_begin_65 : decode cX5_begin 65 = .ok (.getfield 71, 3) := by decide +kernel
theorem dX5_begin_68 : decode cX5_begin 68 = .ok (.getfield 60, 3) := by decide +kernel
theorem dX5_begin_71 : decode cX5_begin 71 = .ok (.aload_n 0, 1) := by decide +kernel
theorem dX5_begin_72 : decode cX5_begin 72 = .ok (.getfield 71, 3) := by decide +kernel
theorem dX5_begin_75 : decode cX5_begin 75 = .ok (.getfield 78, 3) := by decide +kernel
theorem dX5_begin_78 : decode cX5_begin 78 = .ok (.iaload, 1) := by decide +kernel
theorem dX5_begin_79 : decode cX5_begin 79 = .ok (.iconst (-1), 1) := by decide +kernel
theorem dX5_begin_80 : decode cX5_begin 80 = .ok (.if_icmp .eq 22, 3) := by decide +kernel
theorem dX5_begin_83 : decode cX5_begin 83 = .ok (.aload_n 0, 1) := by decide +kernel
theorem dX5_begin_84 : decode cX5_begin 84 = .ok (.aload_n 0, 1) := by decide +kernel
theorem dX5_begin_85 : decode cX5_begin 85 = .ok (.getfield 71, 3) := by decide +kernel
theorem dX5_begin_88 : decode cX5_begin 88 = .ok (.getfield 60, 3) := by decide +kernel
theorem dX5_begin_91 : decode cX5_begin 91 = .ok (.aload_n 0, 1) := by decide +kernel
theorem dX5_begin_92 : decode cX5_begin 92 = .ok (.getfield 71, 3) := by decide +kernel
theorem dX5_begin_95 : decode cX5_begin 95 = .ok (.getfield 78, 3) := by decide +kernel
theorem dX5_begin_98 : decode cX5_begin 98 = .ok (.iaload, 1) := by decide +kernel
theorem dX5_begin_99 : decode cX5_begin 99 = .ok (.invokevirtual 135, 3) := by decide +kernel
theorem dX5_begin_102 : decode cX5_begin 102 = .ok (.return_, 1) := by decide +kernel
set_option maxRecDepth 20000 in
theorem moX5_begin_102 {o : Hp} {F : Nat} {h : Hp} (hE : sX5_begin_102 F h  = some o) : Le h o := by
  exact le_some1 hE
set_option maxRecDepth 20000 in
theorem moX5_begin_54 {o : Hp} {F : Nat} {h : Hp} {x0 : Nat} {t0 : Int32} {t1 : Nat} (hE : sX5_begin_54 F h x0 t0 t1 = some o) : Le h o := by
  obtain ⟨g_1, hE⟩ := gd_e hE
  obtain ⟨h_2, eh_2, hE⟩ := nm_e2 hE
  refine (le_I eh_2).tr ?_
  rcases br_e hE with ⟨_, hE⟩ | ⟨_, hE⟩
  · exact moX5_begin_102 hE
  · obtain ⟨r_4, er_4, hE⟩ := cl_e hE
    obtain ⟨r_5, er_5, hE⟩ := cl_e hE
    obtain ⟨r_6, er_6, hE⟩ := cl_e hE
    obtain ⟨g_7, hE⟩ := gd_e hE
    rcases br_e hE with ⟨_, hE⟩ | ⟨_, hE⟩
    · exact moX5_begin_102 hE
    · obtain ⟨r_9, er_9, hE⟩ := cl_e hE
      obtain ⟨r_10, er_10, hE⟩ := cl_e hE
      obtain ⟨r_11, er_11, hE⟩ := cl_e hE
      obtain ⟨g_12, hE⟩ := gd_e hE
      obtain ⟨o_13, eo_13, hE⟩ := cl_e hE
      refine (moX5_survey eo_13).tr ?_
      exact moX5_begin_102 hE
set_option maxRecDepth 20000 in
theorem moX5_begin_49 {o : Hp} {F : Nat} {h : Hp} {x0 : Nat} {t0 : Nat} (hE : sX5_begin_49 F h x0 t0 = some o) : Le h o := by
  exact moX5_begin_54 hE
set_option maxRecDepth 20000 in
theorem moX5_begin {o : Hp} {F : Nat} {h : Hp} {x0 : Nat} {x1 : Nat} {x2 : Nat} (hE : sX5_begin F h x0 x1 x2 = some o) : Le h o := by
  obtain ⟨h_1, eh_1, hE⟩ := nm_e2 hE
  refine (le_R eh_1).tr ?_
  obtain ⟨h_2, eh_2, hE⟩ := nm_e2 hE
  refine (le_R eh_2).tr ?_
  obtain ⟨h_3, eh_3, hE⟩ := nm_e2 hE
  refine (le_I eh_3).tr ?_
  obtain ⟨h_4, eh_4, hE⟩ := nm_e2 hE
  refine (le_I eh_4).tr ?_
  obtain ⟨h_5, eh_5, hE⟩ := nm_e2 hE
  refine (le_J eh_5).tr ?_
  obtain ⟨r_6, er_6, hE⟩ := cl_e hE
  rcases br_e hE with ⟨_, hE⟩ | ⟨_, hE⟩
  · exact moX5_begin_49 hE
  · obtain ⟨r_8, er_8, hE⟩ := cl_e hE
    obtain ⟨o_9, eo_9, hE⟩ := cl_e hE
    refine (moX1_has eo_9).tr ?_
    rcases br_e hE with ⟨_, hE⟩ | ⟨_, hE⟩
    · exact moX5_begin_49 hE
    · exact moX5_begin_54 hE
set_option maxRecDepth 20000 in
theorem bX5_begin_102 {p : Program} {l : Launch} {e : Env} {s : State} {m : MethodId} {args : Array Value} {below : List Frame} {meth : Method} {c : Code} {X : Ec} {h0 : Hp} {o : Hp} {F : Nat} (C : Cx X p s m args meth c RX5 cX5_begin 3 none "begin") {h : Hp} {H : Heap} {locs : List Loc} (hkm : Km h0 h) (hW : Wx X h H) (hZ : va_S (aA (eB X)) s.heap H locs) (ls : Array Slot) (hl : lv_has ls 3 []) (hE : sX5_begin_102 F h  = some o) : W p l e (rm 2 57) s m args below meth c H locs 0 0 (MQ below (QV X h0 o) args s 0 0 (aA (eB X))) (F0 m 102 ls []) := by
  exact x_vret C rfl hW hZ hkm hE dX5_begin_102
set_option maxRecDepth 20000 in
theorem bX5_begin_54 {p : Program} {l : Launch} {e : Env} {s : State} {m : MethodId} {args : Array Value} {below : List Frame} {meth : Method} {c : Code} {X : Ec} {h0 : Hp} {o : Hp} {F : Nat} (C : Cx X p s m args meth c RX5 cX5_begin 3 none "begin") {h : Hp} {x0 : Nat} {t0 : Int32} {t1 : Nat} {H : Heap} {locs : List Loc} (k_x0 : hK h x0 = 5) (k_t1 : hK h t1 = 5) (hkm : Km h0 h) (hW : Wx X h H) (hZ : va_S (aA (eB X)) s.heap H locs) (ls : Array Slot) (hl : lv_has ls 3 [(0, .ref x0)]) (hE : sX5_begin_54 F h x0 t0 t1 = some o) : W p l e (rm 2 57) s m args below meth c H locs 0 0 (MQ below (QV X h0 o) args s 0 0 (aA (eB X))) (F0 m 54 ls [.int t0, .ref t1]) := by
  obtain ⟨g_1, hE⟩ := gd_e hE
  obtain ⟨h_2, eh_2, hE⟩ := nm_e2 hE
  refine pf_X5_132 C hW hZ k_t1 (narB g_1) eh_2 dX5_begin_54 (fun _ _ hW km hZ => ?_)
  replace hkm := hkm.tr km
  replace k_x0 := km.at k_x0 (by decide)
  refine lv_aload_n C.1 C.2.1 dX5_begin_57 rfl (lv_at hl 0 rfl) ?_
  refine gf_X5_132 C hW k_x0 dX5_begin_58 ?_
  refine lv_if_eq (tgt := 102) C.1 C.2.1 dX5_begin_61 (by decide) (fun c_3 => ?_) (fun c_3 => ?_)
  · have hE := br_p hE c_3
    exact bX5_begin_102 C hkm hW hZ _ (lv_sub hl [] rfl) hE
  · have hE := br_n hE c_3
    refine lv_aload_n C.1 C.2.1 dX5_begin_64 rfl (lv_at hl 0 rfl) ?_
    obtain ⟨r_4, er_4, hE⟩ := cl_e hE
    refine gf_X5_71 C hW k_x0 er_4 dX5_begin_65 (fun k_r_4 => ?_)
    obtain ⟨r_5, er_5, hE⟩ := cl_e hE
    refine gf_X5_60 C hW k_r_4 er_5 dX5_begin_68 (fun k_r_5 => ?_)
    refine lv_aload_n C.1 C.2.1 dX5_begin_71 rfl (lv_at hl 0 rfl) ?_
    obtain ⟨r_6, er_6, hE⟩ := cl_e hE
    refine gf_X5_71 C hW k_x0 er_6 dX5_begin_72 (fun k_r_6 => ?_)
    refine gf_X5_78 C hW k_r_6 dX5_begin_75 ?_
    obtain ⟨g_7, hE⟩ := gd_e hE
    refine y_iald C hW k_r_5 g_7 dX5_begin_78 ?_
    refine lv_iconst (v := (-1 : Int32)) C.1 C.2.1 dX5_begin_79 (by decide) ?_
    refine lv_icmp_eq (tgt := 102) C.1 C.2.1 dX5_begin_80 (by decide) (fun c_8 => ?_) (fun c_8 => ?_)
    · have hE := br_p hE c_8
      exact bX5_begin_102 C hkm hW hZ _ (lv_sub hl [] rfl) hE
    · have hE := br_n hE c_8
      refine lv_aload_n C.1 C.2.1 dX5_begin_83 rfl (lv_at hl 0 rfl) ?_
      refine lv_aload_n C.1 C.2.1 dX5_begin_84 rfl (lv_at hl 0 rfl) ?_
      obtain ⟨r_9, er_9, hE⟩ := cl_e hE
      refine gf_X5_71 C hW k_x0 er_9 dX5_begin_85 (fun k_r_9 => ?_)
      obtain ⟨r_10, er_10, hE⟩ := cl_e hE
      refine gf_X5_60 C hW k_r_9 er_10 dX5_begin_88 (fun k_r_10 => ?_)
      refine lv_aload_n C.1 C.2.1 dX5_begin_91 rfl (lv_at hl 0 rfl) ?_
      obtain ⟨r_11, er_11, hE⟩ := cl_e hE
      refine gf_X5_71 C hW k_x0 er_11 dX5_begin_92 (fun k_r_11 => ?_)
      refine gf_X5_78 C hW k_r_11 dX5_begin_95 ?_
      obtain ⟨g_12, hE⟩ := gd_e hE
      refine y_iald C hW k_r_10 g_12 dX5_begin_98 ?_
      obtain ⟨o_13, eo_13, hE⟩ := cl_e hE
      refine x_kV (o := o_13) (z_runV (As := [.int (hI h_2 r_10 (hI h_2 r_11 5).toNatClampNeg)]) (rest := []) C (ct_X5_survey l X F k_x0 eo_13) cw_X5_135 hW hZ k_x0 (by decide) rfl rfl rfl hl.1 (Nat.le_of_ble_eq_true rfl) rfl dX5_begin_99 ⟨Nat.le_of_ble_eq_true rfl, Nat.le_of_ble_eq_true rfl⟩ ⟨Nat.le_refl _, Nat.le_refl _⟩) hZ (fun _ _ hW km hZ => ?_)
      replace hkm := hkm.tr km
      replace k_x0 := km.at k_x0 (by decide)
      exact bX5_begin_102 C hkm hW hZ _ (lv_sub hl [] rfl) hE
set_option maxRecDepth 20000 in
theorem bX5_begin_49 {p : Program} {l : Launch} {e : Env} {s : State} {m : MethodId} {args : Array Value} {below : List Frame} {meth : Method} {c : Code} {X : Ec} {h0 : Hp} {o : Hp} {F : Nat} (C : Cx X p s m args meth c RX5 cX5_begin 3 none "begin") {h : Hp} {x0 : Nat} {t0 : Nat} {H : Heap} {locs : List Loc} (k_x0 : hK h x0 = 5) (k_t0 : hK h t0 = 5) (hkm : Km h0 h) (hW : Wx X h H) (hZ : va_S (aA (eB X)) s.heap H locs) (ls : Array Slot) (hl : lv_has ls 3 [(0, .ref x0)]) (hE : sX5_begin_49 F h x0 t0 = some o) : W p l e (rm 2 57) s m args below meth c H locs 0 0 (MQ below (QV X h0 o) args s 0 0 (aA (eB X))) (F0 m 49 ls [.ref t0]) := by
  refine lv_iconst (v := (1 : Int32)) C.1 C.2.1 dX5_begin_49 (by decide) ?_
  refine lv_goto (tgt := 54) C.1 C.2.1 dX5_begin_50 (by decide) ?_
  exact bX5_begin_54 C k_x0 k_t0 hkm hW hZ _ (lv_sub hl [0] rfl) hE
set_option maxRecDepth 20000 in
theorem ct_X5_begin (l : Launch) (X : Ec) (F : Nat) {h : Hp} {x0 : Nat} {x1 : Nat} {x2 : Nat} {o : Hp} (k_x0 : hK h x0 = 5) (k_x1 : hK h x1 = 3) (k_x2 : hK h x2 = 17) (hE : sX5_begin F h x0 x1 x2 = some o) : MetV l yX5_begin cX5_begin 3 none 2 57 X [.ref x0, .ref x1, .ref x2] h o := by
  refine x_met (by decide) (Nat.le_of_ble_eq_true rfl) ?_
  intro p e s m below meth c ls C hl hW hZ
  have hl : lv_has ls 3 [(0, .ref x0), (1, .ref x1), (2, .ref x2)] := hl
  have hkm : Km h h := Km.rf h
  refine lv_aload_n C.1 C.2.1 dX5_begin_0 rfl (lv_at hl 0 rfl) ?_
  refine lv_aload_n C.1 C.2.1 dX5_begin_1 rfl (lv_at hl 1 rfl) ?_
  obtain ⟨h_1, eh_1, hE⟩ := nm_e2 hE
  refine pf_X5_71 C hW hZ k_x0 k_x1 eh_1 dX5_begin_2 (fun _ _ hW km hZ => ?_)
  replace hkm := hkm.tr km
  replace k_x0 := km.at k_x0 (by decide)
  replace k_x1 := km.at k_x1 (by decide)
  replace k_x2 := km.at k_x2 (by decide)
  refine lv_aload_n C.1 C.2.1 dX5_begin_5 rfl (lv_at hl 0 rfl) ?_
  refine lv_aload_n C.1 C.2.1 dX5_begin_6 rfl (lv_at hl 2 rfl) ?_
  obtain ⟨h_2, eh_2, hE⟩ := nm_e2 hE
  refine pf_X5_123 C hW hZ k_x0 k_x2 eh_2 dX5_begin_7 (fun _ _ hW km hZ => ?_)
  replace hkm := hkm.tr km
  replace k_x0 := km.at k_x0 (by decide)
  replace k_x1 := km.at k_x1 (by decide)
  replace k_x2 := km.at k_x2 (by decide)
  refine lv_aload_n C.1 C.2.1 dX5_begin_10 rfl (lv_at hl 0 rfl) ?_
  refine lv_iconst (v := (0 : Int32)) C.1 C.2.1 dX5_begin_11 (by decide) ?_
  obtain ⟨h_3, eh_3, hE⟩ := nm_e2 hE
  refine pf_X5_82 C hW hZ k_x0 eh_3 dX5_begin_12 (fun _ _ hW km hZ => ?_)
  replace hkm := hkm.tr km
  replace k_x0 := km.at k_x0 (by decide)
  replace k_x1 := km.at k_x1 (by decide)
  replace k_x2 := km.at k_x2 (by decide)
  refine lv_aload_n C.1 C.2.1 dX5_begin_15 rfl (lv_at hl 0 rfl) ?_
  refine lv_iconst (v := (0 : Int32)) C.1 C.2.1 dX5_begin_16 (by decide) ?_
  obtain ⟨h_4, eh_4, hE⟩ := nm_e2 hE
  refine pf_X5_116 C hW hZ k_x0 (by decide) eh_4 dX5_begin_17 (fun _ _ hW km hZ => ?_)
  replace hkm := hkm.tr km
  replace k_x0 := km.at k_x0 (by decide)
  replace k_x1 := km.at k_x1 (by decide)
  replace k_x2 := km.at k_x2 (by decide)
  refine lv_aload_n C.1 C.2.1 dX5_begin_20 rfl (lv_at hl 0 rfl) ?_
  refine lv_lconst (v := (0 : Int64)) C.1 C.2.1 dX5_begin_21 (by decide) ?_
  obtain ⟨h_5, eh_5, hE⟩ := nm_e2 hE
  refine pf_X5_126 C hW hZ k_x0 eh_5 dX5_begin_22 (fun _ _ hW km hZ => ?_)
  replace hkm := hkm.tr km
  replace k_x0 := km.at k_x0 (by decide)
  replace k_x1 := km.at k_x1 (by decide)
  replace k_x2 := km.at k_x2 (by decide)
  refine lv_aload_n C.1 C.2.1 dX5_begin_25 rfl (lv_at hl 0 rfl) ?_
  refine lv_aload_n C.1 C.2.1 dX5_begin_26 rfl (lv_at hl 0 rfl) ?_
  obtain ⟨r_6, er_6, hE⟩ := cl_e hE
  refine gf_X5_22 C hW k_x0 er_6 dX5_begin_27 (fun k_r_6 => ?_)
  refine gf_X5_129 C hW k_r_6 dX5_begin_30 ?_
  refine lv_iconst (v := (-1 : Int32)) C.1 C.2.1 dX5_begin_33 (by decide) ?_
  refine lv_icmp_eq (tgt := 49) C.1 C.2.1 dX5_begin_34 (by decide) (fun c_7 => ?_) (fun c_7 => ?_)
  · have hE := br_p hE c_7
    exact bX5_begin_49 C k_x0 k_x0 hkm hW hZ _ (lv_sub hl [0] rfl) hE
  · have hE := br_n hE c_7
    refine lv_aload_n C.1 C.2.1 dX5_begin_37 rfl (lv_at hl 0 rfl) ?_
    obtain ⟨r_8, er_8, hE⟩ := cl_e hE
    refine gf_X5_22 C hW k_x0 er_8 dX5_begin_38 (fun k_r_8 => ?_)
    refine lv_bipush (v := (12 : Int32)) C.1 C.2.1 dX5_begin_41 (by decide) ?_
    obtain ⟨o_9, eo_9, hE⟩ := cl_e hE
    refine x_kI (o := o_9) (z_runV (As := [.int (12 : Int32)]) (rest := [.ref x0]) C (ct_X1_has l X k_r_8 eo_9) cw_X5_104 hW hZ k_r_8 (by decide) rfl rfl rfl hl.1 (Nat.le_of_ble_eq_true rfl) rfl dX5_begin_43 ⟨Nat.le_of_ble_eq_true rfl, Nat.le_of_ble_eq_true rfl⟩ ⟨Nat.le_refl _, Nat.le_refl _⟩) hZ (fun _ _ hW km hZ => ?_)
    replace hkm := hkm.tr km
    replace k_x0 := km.at k_x0 (by decide)
    replace k_x1 := km.at k_x1 (by decide)
    replace k_x2 := km.at k_x2 (by decide)
    refine lv_if_ne (tgt := 53) C.1 C.2.1 dX5_begin_46 (by decide) (fun c_10 => ?_) (fun c_10 => ?_)
    · have hE := br_n hE c_10
      refine lv_iconst (v := (0 : Int32)) C.1 C.2.1 dX5_begin_53 (by decide) ?_
      exact bX5_begin_54 C k_x0 k_x0 hkm hW hZ _ (lv_sub hl [0] rfl) hE
    · have hE := br_p hE c_10
      exact bX5_begin_49 C k_x0 k_x0 hkm hW hZ _ (lv_sub hl [0] rfl) hE
set_option maxRecDepth 100000 in
theorem m_118 : Cond.fieldLink RX5 300 (TX1 13).1 (TX1 13).2.1 (TX1 13).2.2.1 ∈ W0 := w0_in (List.mem_append_right _ (List.mem_of_getElem? (i := 118) rfl)) rfl
section
variable {p : Program} {l : Launch} {e : Env} {R : Room} {s : State} {m : MethodId} {args : Array Value} {below : List Frame} {meth : Method} {c : Code} {H : Heap} {locs : List Loc} {cells slots : Nat} {Q : State → Prop}
variable {cc : ByteArray} {pc : Nat} {ls : Array Slot} {rest : List Value} {X : Ec} {h h1 : Hp} {nL : Nat} {rt : Option FieldType} {mn : String}
theorem gf_X5_300 {a : Nat} (C : Cx X p s m args meth c RX5 cc nL rt mn) (hW : Wx X h H) (ha : hK h a = 1) (hdg : decode cc pc = .ok (.getfield 300, 3)) (kk : W p l e R s m args below meth c H locs cells slots Q (F0 m (pc + 3) ls (.long (hJ h a 13) :: rest))) : W p l e R s m args below meth c H locs cells slots Q (F0 m pc ls (.ref a :: rest)) :=
  y_getj C hW ha i_X1 (by decide) rfl (by decide) m_118 rfl hdg kk
end
theorem dX5_isOnHill_0 : decode cX5_isOnHill 0 = .ok (.aload_n 1, 1) := by decide +kernel
theorem dX5_isOnHill_1 : decode cX5_isOnHill 1 = .ok (.getfield 60, 3) := by decide +kernel
theorem dX5_isOnHill_4 : decode cX5_isOnHill 4 = .ok (.iload_n 2, 1) := by decide +kernel
theorem dX5_isOnHill_5 : decode cX5_isOnHill 5 = .ok (.iaload, 1) := by decide +kernel
theorem dX5_isOnHill_6 : decode cX5_isOnHill 6 = .ok (.iconst (-1), 1) := by decide +kernel
theorem dX5_isOnHill_7 : decode cX5_isOnHill 7 = .ok (.if_icmp .eq 28, 3) := by decide +kernel
theorem dX5_isOnHill_10 : decode cX5_isOnHill 10 = .ok (.aload_n 0, 1) := by decide +kernel
theorem dX5_isOnHill_11 : decode cX5_isOnHill 11 = .ok (.getfield 22, 3) := by decide +kernel
theorem dX5_isOnHill_14 : decode cX5_isOnHill 14 = .ok (.getfield 300, 3) := by decide +kernel
theorem dX5_isOnHill_17 : decode cX5_isOnHill 17 = .ok (.aload_n 1, 1) := by decide +kernel
theorem dX5_isOnHill_18 : decode cX5_isOnHill 18 = .ok (.getfield 60, 3) := by decide +kernel
theorem dX5_isOnHill_21 : decode cX5_isOnHill 21 = .ok (.iload_n 2, 1) := by decide +kernel
theorem dX5_isOnHill_22 : decode cX5_isOnHill 22 = .ok (.iaload, 1) := by decide +kernel
theorem dX5_isOnHill_23 : decode cX5_isOnHill 23 = .ok (.lushr, 1) := by decide +kernel
theorem dX5_isOnHill_24 : decode cX5_isOnHill 24 = .ok (.lconst 1, 1) := by decide +kernel
theorem dX5_isOnHill_25 : decode cX5_isOnHill 25 = .ok (.land, 1) := by decide +kernel
theorem dX5_isOnHill_26 : decode cX5_isOnHill 26 = .ok (.lconst 0, 1) := by decide +kernel
theorem dX5_isOnHill_27 : decode cX5_isOnHill 27 = .ok (.lcmp, 1) := by decide +kernel
theorem dX5_isOnHill_28 : decode cX5_isOnHill 28 = .ok (.ifCond .eq 7, 3) := by decide +kernel
theorem dX5_isOnHill_31 : decode cX5_isOnHill 31 = .ok (.iconst 1, 1) := by decide +kernel
theorem dX5_isOnHill_32 : decode cX5_isOnHill 32 = .ok (.goto 4, 3) := by decide +kernel
theorem dX5_isOnHill_35 : decode cX5_isOnHill 35 = .ok (.iconst 0, 1) := by decide +kernel
theorem dX5_isOnHill_36 : decode cX5_isOnHill 36 = .ok (.ireturn, 1) := by decide +kernel
set_option maxRecDepth 20000 in
theorem moX5_isOnHill_36 {o : Int32 × Hp} {h : Hp} {t0 : Int32} (hE : sX5_isOnHill_36 h  t0 = some o) : Le h o.2 := by
  obtain ⟨g_1, hE⟩ := gd_e hE
  exact le_some2 hE
set_option maxRecDepth 20000 in
theorem moX5_isOnHill_35 {o : Int32 × Hp} {h : Hp} (hE : sX5_isOnHill_35 h  = some o) : Le h o.2 := by
  exact moX5_isOnHill_36 hE
set_option maxRecDepth 20000 in
theorem moX5_isOnHill {o : Int32 × Hp} {h : Hp} {x0 : Nat} {x1 : Nat} {x2 : Int32} (hE : sX5_isOnHill h x0 x1 x2 = some o) : Le h o.2 := by
  obtain ⟨r_1, er_1, hE⟩ := cl_e hE
  obtain ⟨g_2, hE⟩ := gd_e hE
  rcases br_e hE with ⟨_, hE⟩ | ⟨_, hE⟩
  · exact moX5_isOnHill_35 hE
  · obtain ⟨r_4, er_4, hE⟩ := cl_e hE
    obtain ⟨r_5, er_5, hE⟩ := cl_e hE
    obtain ⟨g_6, hE⟩ := gd_e hE
    rcases br_e hE with ⟨_, hE⟩ | ⟨_, hE⟩
    · exact moX5_isOnHill_35 hE
    · exact moX5_isOnHill_36 hE
set_option maxRecDepth 20000 in
theorem bX5_isOnHill_36 {p : Program} {l : Launch} {e : Env} {s : State} {m : MethodId} {args : Array Value} {below : List Frame} {meth : Method} {c : Code} {X : Ec} {h0 : Hp} {o : Int32 × Hp} (C : Cx X p s m args meth c RX5 cX5_isOnHill 3 (some .boolean) "isOnHill") {h : Hp} {t0 : Int32} {H : Heap} {locs : List Loc} (hkm : Km h0 h) (hW : Wx X h H) (hZ : va_S (aA (eB X)) s.heap H locs) (ls : Array Slot) (hl : lv_has ls 3 []) (hE : sX5_isOnHill_36 h  t0 = some o) : W p l e (rm 0 0) s m args below meth c H locs 0 0 (MQ below (QI X h0 o.1 o.2) args s 0 0 (aA (eB X))) (F0 m 36 ls [.int t0]) := by
  obtain ⟨g_1, hE⟩ := gd_e hE
  exact x_iret C rfl (narB g_1) hW hZ hkm hE dX5_isOnHill_36
set_option maxRecDepth 20000 in
theorem bX5_isOnHill_35 {p : Program} {l : Launch} {e : Env} {s : State} {m : MethodId} {args : Array Value} {below : List Frame} {meth : Method} {c : Code} {X : Ec} {h0 : Hp} {o : Int32 × Hp} (C : Cx X p s m args meth c RX5 cX5_isOnHill 3 (some .boolean) "isOnHill") {h : Hp} {H : Heap} {locs : List Loc} (hkm : Km h0 h) (hW : Wx X h H) (hZ : va_S (aA (eB X)) s.heap H locs) (ls : Array Slot) (hl : lv_has ls 3 []) (hE : sX5_isOnHill_35 h  = some o) : W p l e (rm 0 0) s m args below meth c H locs 0 0 (MQ below (QI X h0 o.1 o.2) args s 0 0 (aA (eB X))) (F0 m 35 ls []) := by
  refine lv_iconst (v := (0 : Int32)) C.1 C.2.1 dX5_isOnHill_35 (by decide) ?_
  exact bX5_isOnHill_36 C hkm hW hZ _ (lv_sub hl [] rfl) hE
set_option maxRecDepth 20000 in
theorem ct_X5_isOnHill (l : Launch) (X : Ec) {h : Hp} {x0 : Nat} {x1 : Nat} {x2 : Int32} {o : Int32 × Hp} (k_x0 : hK h x0 = 5) (k_x1 : hK h x1 = 3) (hE : sX5_isOnHill h x0 x1 x2 = some o) : MetI l yX5_isOnHill cX5_isOnHill 3 (some .boolean) 0 0 X [.ref x0, .ref x1, .int x2] h o := by
  refine x_met (by decide) (Nat.le_of_ble_eq_true rfl) ?_
  intro p e s m below meth c ls C hl hW hZ
  have hl : lv_has ls 3 [(0, .ref x0), (1, .ref x1), (2, .int x2)] := hl
  have hkm : Km h h := Km.rf h
  refine lv_aload_n C.1 C.2.1 dX5_isOnHill_0 rfl (lv_at hl 1 rfl) ?_
  obtain ⟨r_1, er_1, hE⟩ := cl_e hE
  refine gf_X5_60 C hW k_x1 er_1 dX5_isOnHill_1 (fun k_r_1 => ?_)
  refine lv_iload_n C.1 C.2.1 dX5_isOnHill_4 rfl (lv_at hl 2 rfl) ?_
  obtain ⟨g_2, hE⟩ := gd_e hE
  refine y_iald C hW k_r_1 g_2 dX5_isOnHill_5 ?_
  refine lv_iconst (v := (-1 : Int32)) C.1 C.2.1 dX5_isOnHill_6 (by decide) ?_
  refine lv_icmp_eq (tgt := 35) C.1 C.2.1 dX5_isOnHill_7 (by decide) (fun c_3 => ?_) (fun c_3 => ?_)
  · have hE := br_p hE c_3
    exact bX5_isOnHill_35 C hkm hW hZ _ (lv_sub hl [] rfl) hE
  · have hE := br_n hE c_3
    refine lv_aload_n C.1 C.2.1 dX5_isOnHill_10 rfl (lv_at hl 0 rfl) ?_
    obtain ⟨r_4, er_4, hE⟩ := cl_e hE
    refine gf_X5_22 C hW k_x0 er_4 dX5_isOnHill_11 (fun k_r_4 => ?_)
    refine gf_X5_300 C hW k_r_4 dX5_isOnHill_14 ?_
    refine lv_aload_n C.1 C.2.1 dX5_isOnHill_17 rfl (lv_at hl 1 rfl) ?_
    obtain ⟨r_5, er_5, hE⟩ := cl_e hE
    refine gf_X5_60 C hW k_x1 er_5 dX5_isOnHill_18 (fun k_r_5 => ?_)
    refine lv_iload_n C.1 C.2.1 dX5_isOnHill_21 rfl (lv_at hl 2 rfl) ?_
    obtain ⟨g_6, hE⟩ := gd_e hE
    refine y_iald C hW k_r_5 g_6 dX5_isOnHill_22 ?_
    refine lv_lushr C.1 C.2.1 dX5_isOnHill_23 rfl ?_
    refine lv_lconst (v := (1 : Int64)) C.1 C.2.1 dX5_isOnHill_24 (by decide) ?_
    refine lv_land C.1 C.2.1 dX5_isOnHill_25 ?_
    refine lv_lconst (v := (0 : Int64)) C.1 C.2.1 dX5_isOnHill_26 (by decide) ?_
    refine W.lcmp C.1 C.2.1 dX5_isOnHill_27 ?_
    refine lv_if_eq (tgt := 35) C.1 C.2.1 dX5_isOnHill_28 (by decide) (fun c_7 => ?_) (fun c_7 => ?_)
    · have hE := br_p hE c_7
      exact bX5_isOnHill_35 C hkm hW hZ _ (lv_sub hl [] rfl) hE
    · have hE := br_n hE c_7
      refine lv_iconst (v := (1 : Int32)) C.1 C.2.1 dX5_isOnHill_31 (by decide) ?_
      refine lv_goto (tgt := 36) C.1 C.2.1 dX5_isOnHill_32 (by decide) ?_
      exact bX5_isOnHill_36 C hkm hW hZ _ (lv_sub hl [] rfl) hE
theorem dX5_isBare_0 : decode cX5_isBare 0 = .ok (.aload_n 1, 1) := by decide +kernel
theorem dX5_isBare_1 : decode cX5_isBare 1 = .ok (.getfield 33, 3) := by decide +kernel
theorem dX5_isBare_4 : decode cX5_isBare 4 = .ok (.iload_n 2, 1) := by decide +kernel
theorem dX5_isBare_5 : decode cX5_isBare 5 = .ok (.laload, 1) := by decide +kernel
theorem dX5_isBare_6 : decode cX5_isBare 6 = .ok (.lconst 0, 1) := by decide +kernel
theorem dX5_isBare_7 : decode cX5_isBare 7 = .ok (.lcmp, 1) := by decide +kernel
theorem dX5_isBare_8 : decode cX5_isBare 8 = .ok (.ifCond .ne 18, 3) := by decide +kernel
theorem dX5_isBare_11 : decode cX5_isBare 11 = .ok (.aload_n 1, 1) := by decide +kernel
theorem dX5_isBare_12 : decode cX5_isBare 12 = .ok (.getfield 303, 3) := by decide +kernel
theorem dX5_isBare_15 : decode cX5_isBare 15 = .ok (.iload_n 2, 1) := by decide +kernel
theorem dX5_isBare_16 : decode cX5_isBare 16 = .ok (.laload, 1) := by decide +kernel
theorem dX5_isBare_17 : decode cX5_isBare 17 = .ok (.lconst 0, 1) := by decide +kernel
theorem dX5_isBare_18 : decode cX5_isBare 18 = .ok (.lcmp, 1) := by decide +kernel
theorem dX5_isBare_19 : decode cX5_isBare 19 = .ok (.ifCond .ne 7, 3) := by decide +kernel
theorem dX5_isBare_22 : decode cX5_isBare 22 = .ok (.iconst 1, 1) := by decide +kernel
theorem dX5_isBare_23 : decode cX5_isBare 23 = .ok (.goto 4, 3) := by decide +kernel
theorem dX5_isBare_26 : decode cX5_isBare 26 = .ok (.iconst 0, 1) := by decide +kernel
theorem dX5_isBare_27 : decode cX5_isBare 27 = .ok (.ireturn, 1) := by decide +kernel
set_option maxRecDepth 20000 in
theorem moX5_isBare_27 {o : Int32 × Hp} {h : Hp} {t0 : Int32} (hE : sX5_isBare_27 h  t0 = some o) : Le h o.2 := by
  obtain ⟨g_1, hE⟩ := gd_e hE
  exact le_some2 hE
set_option maxRecDepth 20000 in
theorem moX5_isBare_26 {o : Int32 × Hp} {h : Hp} (hE : sX5_isBare_26 h  = some o) : Le h o.2 := by
  exact moX5_isBare_27 hE
set_option maxRecDepth 20000 in
theorem moX5_isBare {o : Int32 × Hp} {h : Hp} {x0 : Nat} {x1 : Nat} {x2 : Int32} (hE : sX5_isBare h x0 x1 x2 = some o) : Le h o.2 := by
  obtain ⟨r_1, er_1, hE⟩ := cl_e hE
  obtain ⟨g_2, hE⟩ := gd_e hE
  rcases br_e hE with ⟨_, hE⟩ | ⟨_, hE⟩
  · obtain ⟨r_4, er_4, hE⟩ := cl_e hE
    obtain ⟨g_5, hE⟩ := gd_e hE
    rcases br_e hE with ⟨_, hE⟩ | ⟨_, hE⟩
    · exact moX5_isBare_27 hE
    · exact moX5_isBare_26 hE
  · exact moX5_isBare_26 hE
set_option maxRecDepth 20000 in
theorem bX5_isBare_27 {p : Program} {l : Launch} {e : Env} {s : State} {m : MethodId} {args : Array Value} {below : List Frame} {meth : Method} {c : Code} {X : Ec} {h0 : Hp} {o : Int32 × Hp} (C : Cx X p s m args meth c RX5 cX5_isBare 3 (some .boolean) "isBare") {h : Hp} {t0 : Int32} {H : Heap} {locs : List Loc} (hkm : Km h0 h) (hW : Wx X h H) (hZ : va_S (aA (eB X)) s.heap H locs) (ls : Array Slot) (hl : lv_has ls 3 []) (hE : sX5_isBare_27 h  t0 = some o) : W p l e (rm 0 0) s m args below meth c H locs 0 0 (MQ below (QI X h0 o.1 o.2) args s 0 0 (aA (eB X))) (F0 m 27 ls [.int t0]) := by
  obtain ⟨g_1, hE⟩ := gd_e hE
  exact x_iret C rfl (narB g_1) hW hZ hkm hE dX5_isBare_27
set_option maxRecDepth 20000 in
theorem bX5_isBare_26 {p : Program} {l : Launch} {e : Env} {s : State} {m : MethodId} {args : Array Value} {below : List Frame} {meth : Method} {c : Code} {X : Ec} {h0 : Hp} {o : Int32 × Hp} (C : Cx X p s m args meth c RX5 cX5_isBare 3 (some .boolean) "isBare") {h : Hp} {H : Heap} {locs : List Loc} (hkm : Km h0 h) (hW : Wx X h H) (hZ : va_S (aA (eB X)) s.heap H locs) (ls : Array Slot) (hl : lv_has ls 3 []) (hE : sX5_isBare_26 h  = some o) : W p l e (rm 0 0) s m args below meth c H locs 0 0 (MQ below (QI X h0 o.1 o.2) args s 0 0 (aA (eB X))) (F0 m 26 ls []) := by
  refine lv_iconst (v := (0 : Int32)) C.1 C.2.1 dX5_isBare_26 (by decide) ?_
  exact bX5_isBare_27 C hkm hW hZ _ (lv_sub hl [] rfl) hE
set_option maxRecDepth 20000 in
theorem ct_X5_isBare (l : Launch) (X : Ec) {h : Hp} {x0 : Nat} {x1 : Nat} {x2 : Int32} {o : Int32 × Hp} (k_x0 : hK h x0 = 5) (k_x1 : hK h x1 = 3) (hE : sX5_isBare h x0 x1 x2 = some o) : MetI l yX5_isBare cX5_isBare 3 (some .boolean) 0 0 X [.ref x0, .ref x1, .int x2] h o := by
  refine x_met (by decide) (Nat.le_of_ble_eq_true rfl) ?_
  intro p e s m below meth c ls C hl hW hZ
  have hl : lv_has ls 3 [(0, .ref x0), (1, .ref x1), (2, .int x2)] := hl
  have hkm : Km h h := Km.rf h
  refine lv_aload_n C.1 C.2.1 dX5_isBare_0 rfl (lv_at hl 1 rfl) ?_
  obtain ⟨r_1, er_1, hE⟩ := cl_e hE
  refine gf_X5_33 C hW k_x1 er_1 dX5_isBare_1 (fun k_r_1 => ?_)
  refine lv_iload_n C.1 C.2.1 dX5_isBare_4 rfl (lv_at hl 2 rfl) ?_
  obtain ⟨g_2, hE⟩ := gd_e hE
  refine y_lald C hW k_r_1 g_2 dX5_isBare_5 ?_
  refine lv_lconst (v := (0 : Int64)) C.1 C.2.1 dX5_isBare_6 (by decide) ?_
  refine W.lcmp C.1 C.2.1 dX5_isBare_7 ?_
  refine lv_if_ne (tgt := 26) C.1 C.2.1 dX5_isBare_8 (by decide) (fun c_3 => ?_) (fun c_3 => ?_)
  · have hE := br_n hE c_3
    exact bX5_isBare_26 C hkm hW hZ _ (lv_sub hl [] rfl) hE
  · have hE := br_p hE c_3
    refine lv_aload_n C.1 C.2.1 dX5_isBare_11 rfl (lv_at hl 1 rfl) ?_
    obtain ⟨r_4, er_4, hE⟩ := cl_e hE
    refine gf_X5_303 C hW k_x1 er_4 dX5_isBare_12 (fun k_r_4 => ?_)
    refine lv_iload_n C.1 C.2.1 dX5_isBare_15 rfl (lv_at hl 2 rfl) ?_
    obtain ⟨g_5, hE⟩ := gd_e hE
    refine y_lald C hW k_r_4 g_5 dX5_isBare_16 ?_
    refine lv_lconst (v := (0 : Int64)) C.1 C.2.1 dX5_isBare_17 (by decide) ?_
    refine W.lcmp C.1 C.2.1 dX5_isBare_18 ?_
    refine lv_if_ne (tgt := 26) C.1 C.2.1 dX5_isBare_19 (by decide) (fun c_6 => ?_) (fun c_6 => ?_)
    · have hE := br_n hE c_6
      exact bX5_isBare_26 C hkm hW hZ _ (lv_sub hl [] rfl) hE
    · have hE := br_p hE c_6
      refine lv_iconst (v := (1 : Int32)) C.1 C.2.1 dX5_isBare_22 (by decide) ?_
      refine lv_goto (tgt := 27) C.1 C.2.1 dX5_isBare_23 (by decide) ?_
      exact bX5_isBare_27 C hkm hW hZ _ (lv_sub hl [] rfl) hE
set_option maxRecDepth 100000 in
theorem ms_52 : Cond.selects RX5 yX5_isBare yX5_isBare ∈ W0 := w0_in (List.mem_append_left _ (List.mem_of_getElem? (i := 52) rfl)) rfl
set_option maxRecDepth 100000 in
theorem ms_51 : Cond.selects RX5 yX5_isOnHill yX5_isOnHill ∈ W0 := w0_in (List.mem_append_left _ (List.mem_of_getElem? (i := 51) rfl)) rfl
set_option maxRecDepth 100000 in
theorem m_1157 : Cond.methodLink RX5 294 yX5_isOnHill ∈ W0 := w0_in (List.mem_append_right _ (List.mem_of_getElem? (i := 1157) rfl)) rfl
set_option maxRecDepth 100000 in
theorem m_1159 : Cond.instanceMethod yX5_isOnHill ∈ W0 := w0_in (List.mem_append_right _ (List.mem_of_getElem? (i := 1159) rfl)) rfl
set_option maxRecDepth 100000 in
theorem m_1160 : Cond.code yX5_isOnHill cX5_isOnHill 3 (some .boolean) ∈ W0 := w0_in (List.mem_append_right _ (List.mem_of_getElem? (i := 1160) rfl)) rfl
set_option maxRecDepth 100000 in
theorem m_1161 : Cond.methodLink RX5 297 yX5_isBare ∈ W0 := w0_in (List.mem_append_right _ (List.mem_of_getElem? (i := 1161) rfl)) rfl
set_option maxRecDepth 100000 in
theorem m_1163 : Cond.instanceMethod yX5_isBare ∈ W0 := w0_in (List.mem_append_right _ (List.mem_of_getElem? (i := 1163) rfl)) rfl
set_option maxRecDepth 100000 in
theorem m_1164 : Cond.code yX5_isBare cX5_isBare 3 (some .boolean) ∈ W0 := w0_in (List.mem_append_right _ (List.mem_of_getElem? (i := 1164) rfl)) rfl
theorem cw_X5_297 : cwd RX5 297 yX5_isBare cX5_isBare 3 (some .boolean) false 2 := ⟨m_1164, m_1161, m_7, ⟨m_1163, ms_52⟩, by decide, by decide, by decide +kernel⟩
theorem cw_X5_294 : cwd RX5 294 yX5_isOnHill cX5_isOnHill 3 (some .boolean) false 2 := ⟨m_1160, m_1157, m_7, ⟨m_1159, ms_51⟩, by decide, by decide, by decide +kernel⟩
theorem dX5_earlyEnd_0 : decode cX5_earlyEnd 0 = .ok (.aload_n 0, 1) := by decide +kernel
theorem dX5_earlyEnd_1 : decode cX5_earlyEnd 1 = .ok (.getfield 22, 3) := by decide +kernel
theorem dX5_earlyEnd_4 : decode cX5_earlyEnd 4 = .ok (.bipush 8, 2) := by decide +kernel
theorem dX5_earlyEnd_6 : decode cX5_earlyEnd 6 = .ok (.invokevirtual 104, 3) := by decide +kernel
theorem dX5_earlyEnd_9 : decode cX5_earlyEnd 9 = .ok (.ifCond .eq 36, 3) := by decide +kernel
theorem dX5_earlyEnd_12 : decode cX5_earlyEnd 12 = .ok (.aload_n 0, 1) := by decide +kernel
theorem dX5_earlyEnd_13 : decode cX5_earlyEnd 13 = .ok (.getfield 22, 3) := by decide +kernel
theorem dX5_earlyEnd_16 : decode cX5_earlyEnd 16 = .ok (.getfield 129, 3) := by decide +kernel
theorem dX5_earlyEnd_19 : decode cX5_earlyEnd 19 = .ok (.iconst (-1), 1) := by decide +kernel
theorem dX5_earlyEnd_20 : decode cX5_earlyEnd 20 = .ok (.if_icmp .eq 25, 3) := by decide +kernel
theorem dX5_earlyEnd_23 : decode cX5_earlyEnd 23 = .ok (.aload_n 1, 1) := by decide +kernel
theorem dX5_earlyEnd_24 : decode cX5_earlyEnd 24 = .ok (.getfield 60, 3) := by decide +kernel
theorem dX5_earlyEnd_27 : decode cX5_earlyEnd 27 = .ok (.iconst 0, 1) := by decide +kernel
theorem dX5_earlyEnd_28 : decode cX5_earlyEnd 28 = .ok (.iaload, 1) := by decide +kernel
theorem dX5_earlyEnd_29 : decode cX5_earlyEnd 29 = .ok (.iconst (-1), 1) := by decide +kernel
theorem dX5_earlyEnd_30 : decode cX5_earlyEnd 30 = .ok (.if_icmp .eq 13, 3) := by decide +kernel
theorem dX5_earlyEnd_33 : decode cX5_earlyEnd 33 = .ok (.aload_n 1, 1) := by decide +kernel
theorem dX5_earlyEnd_34 : decode cX5_earlyEnd 34 = .ok (.getfield 60, 3) := by decide +kernel
theorem dX5_earlyEnd_37 : decode cX5_earlyEnd 37 = .ok (.iconst 1, 1) := by decide +kernel
theorem dX5_earlyEnd_38 : decode cX5_earlyEnd 38 = .ok (.iaload, 1) := by decide +kernel
theorem dX5_earlyEnd_39 : decode cX5_earlyEnd 39 = .ok (.iconst (-1), 1) := by decide +kernel
theorem dX5_earlyEnd_40 : decode cX5_earlyEnd 40 = .ok (.if_icmp .ne 5, 3) := by decide +kernel
theorem dX5_earlyEnd_43 : decode cX5_earlyEnd 43 = .ok (.iconst 1, 1) := by decide +kernel
theorem dX5_earlyEnd_44 : decode cX5_earlyEnd 44 = .ok (.ireturn, 1) := by decide +kernel
theorem dX5_earlyEnd_45 : decode cX5_earlyEnd 45 = .ok (.aload_n 0, 1) := by decide +kernel
theorem dX5_earlyEnd_46 : decode cX5_earlyEnd 46 = .ok (.aload_n 1, 1) := by decide +kernel
theorem dX5_earlyEnd_47 : decode cX5_earlyEnd 47 = .ok (.iconst 0, 1) := by decide +kernel
theorem dX5_earlyEnd_48 : decode cX5_earlyEnd 48 = .ok (.invokevirtual 294, 3) := by decide +kernel
theorem dX5_earlyEnd_51 : decode cX5_earlyEnd 51 = .ok (.ifCond .ne 12, 3) := by decide +kernel
theorem dX5_earlyEnd_54 : decode cX5_earlyEnd 54 = .ok (.aload_n 0, 1) := by decide +kernel
theorem dX5_earlyEnd_55 : decode cX5_earlyEnd 55 = .ok (.aload_n 1, 1) := by decide +kernel
theorem dX5_earlyEnd_56 : decode cX5_earlyEnd 56 = .ok (.iconst 1, 1) := by decide +kernel
theorem dX5_earlyEnd_57 : decode cX5_earlyEnd 57 = .ok (.invokevirtual 294, 3) := by decide +kernel
theorem dX5_earlyEnd_60 : decode cX5_earlyEnd 60 = .ok (.ifCond .eq 5, 3) := by decide +kernel
theorem dX5_earlyEnd_63 : decode cX5_earlyEnd 63 = .ok (.iconst 2, 1) := by decide +kernel
theorem dX5_earlyEnd_64 : decode cX5_earlyEnd 64 = .ok (.ireturn, 1) := by decide +kernel
theorem dX5_earlyEnd_65 : decode cX5_earlyEnd 65 = .ok (.aload_n 0, 1) := by decide +kernel
theorem dX5_earlyEnd_66 : decode cX5_earlyEnd 66 = .ok (.getfield 22, 3) := by decide +kernel
theorem dX5_earlyEnd_69 : decode cX5_earlyEnd 69 = .ok (.getfield 276, 3) := by decide +kernel
theorem dX5_earlyEnd_72 : decode cX5_earlyEnd 72 = .ok (.ifCond .le 37, 3) := by decide +kernel
theorem dX5_earlyEnd_75 : decode cX5_earlyEnd 75 = .ok (.aload_n 1, 1) := by decide +kernel
theorem dX5_earlyEnd_76 : decode cX5_earlyEnd 76 = .ok (.getfield 283, 3) := by decide +kernel
theorem dX5_earlyEnd_79 : decode cX5_earlyEnd 79 = .ok (.iconst 0, 1) := by decide +kernel
theorem dX5_earlyEnd_80 : decode cX5_earlyEnd 80 = .ok (.iaload, 1) := by decide +kernel
theorem dX5_earlyEnd_81 : decode cX5_earlyEnd 81 = .ok (.aload_n 0, 1) := by decide +kernel
theorem dX5_earlyEnd_82 : decode cX5_earlyEnd 82 = .ok (.getfield 22, 3) := by decide +kernel
theorem dX5_earlyEnd_85 : decode cX5_earlyEnd 85 = .ok (.getfield 276, 3) := by decide +kernel
theorem dX5_earlyEnd_88 : decode cX5_earlyEnd 88 = .ok (.if_icmp .ge 19, 3) := by decide +kernel
theorem dX5_earlyEnd_91 : decode cX5_earlyEnd 91 = .ok (.aload_n 1, 1) := by decide +kernel
theorem dX5_earlyEnd_92 : decode cX5_earlyEnd 92 = .ok (.getfield 283, 3) := by decide +kernel
theorem dX5_earlyEnd_95 : decode cX5_earlyEnd 95 = .ok (.iconst 1, 1) := by decide +kernel
theorem dX5_earlyEnd_96 : decode cX5_earlyEnd 96 = .ok (.iaload, 1) := by decide +kernel
theorem dX5_earlyEnd_97 : decode cX5_earlyEnd 97 = .ok (.aload_n 0, 1) := by decide +kernel
theorem dX5_earlyEnd_98 : decode cX5_earlyEnd 98 = .ok (.getfield 22, 3) := by decide +kernel
theorem dX5_earlyEnd_101 : decode cX5_earlyEnd 101 = .ok (.getfield 276, 3) := by decide +kernel
theorem dX5_earlyEnd_104 : decode cX5_earlyEnd 104 = .ok (.if_icmp .lt 5, 3) := by decide +kernel
theorem dX5_earlyEnd_107 : decode cX5_earlyEnd 107 = .ok (.iconst 3, 1) := by decide +kernel
theorem dX5_earlyEnd_108 : decode cX5_earlyEnd 108 = .ok (.ireturn, 1) := by decide +kernel
theorem dX5_earlyEnd_109 : decode cX5_earlyEnd 109 = .ok (.aload_n 0, 1) := by decide +kernel
theorem dX5_earlyEnd_110 : decode cX5_earlyEnd 110 = .ok (.aload_n 1, 1) := by decide +kernel
theorem dX5_earlyEnd_111 : decode cX5_earlyEnd 111 = .ok (.iconst 0, 1) := by decide +kernel
theorem dX5_earlyEnd_112 : decode cX5_earlyEnd 112 = .ok (.invokevirtual 297, 3) := by decide +kernel
theorem dX5_earlyEnd_115 : decode cX5_earlyEnd 115 = .ok (.ifCond .ne 12, 3) := by decide +kernel
theorem dX5_earlyEnd_118 : decode cX5_earlyEnd 118 = .ok (.aload_n 0, 1) := by decide +kernel
theorem dX5_earlyEnd_119 : decode cX5_earlyEnd 119 = .ok (.aload_n 1, 1) := by decide +kernel
theorem dX5_earlyEnd_120 : decode cX5_earlyEnd 120 = .ok (.iconst 1, 1) := by decide +kernel
theorem dX5_earlyEnd_121 : decode cX5_earlyEnd 121 = .ok (.invokevirtual 297, 3) := by decide +kernel
theorem dX5_earlyEnd_124 : decode cX5_earlyEnd 124 = .ok (.ifCond .eq 7, 3) := by decide +kernel
theorem dX5_earlyEnd_127 : decode cX5_earlyEnd 127 = .ok (.iconst 4, 1) := by decide +kernel
theorem dX5_earlyEnd_128 : decode cX5_earlyEnd 128 = .ok (.goto 4, 3) := by decide +kernel
theorem dX5_earlyEnd_131 : decode cX5_earlyEnd 131 = .ok (.iconst 0, 1) := by decide +kernel
theorem dX5_earlyEnd_132 : decode cX5_earlyEnd 132 = .ok (.ireturn, 1) := by decide +kernel
set_option maxRecDepth 20000 in
theorem moX5_earlyEnd_63 {o : Int32 × Hp} {h : Hp} (hE : sX5_earlyEnd_63 h  = some o) : Le h o.2 := by
  exact le_some2 hE
set_option maxRecDepth 20000 in
theorem moX5_earlyEnd_132 {o : Int32 × Hp} {h : Hp} {t0 : Int32} (hE : sX5_earlyEnd_132 h  t0 = some o) : Le h o.2 := by
  exact le_some2 hE
set_option maxRecDepth 20000 in
theorem moX5_earlyEnd_127 {o : Int32 × Hp} {h : Hp} (hE : sX5_earlyEnd_127 h  = some o) : Le h o.2 := by
  exact moX5_earlyEnd_132 hE
set_option maxRecDepth 20000 in
theorem moX5_earlyEnd_109 {o : Int32 × Hp} {h : Hp} {x0 : Nat} {x1 : Nat} (hE : sX5_earlyEnd_109 h x0 x1 = some o) : Le h o.2 := by
  obtain ⟨o_1, eo_1, hE⟩ := cl_e hE
  refine (moX5_isBare eo_1).tr ?_
  rcases br_e hE with ⟨_, hE⟩ | ⟨_, hE⟩
  · obtain ⟨o_3, eo_3, hE⟩ := cl_e hE
    refine (moX5_isBare eo_3).tr ?_
    rcases br_e hE with ⟨_, hE⟩ | ⟨_, hE⟩
    · exact moX5_earlyEnd_132 hE
    · exact moX5_earlyEnd_127 hE
  · exact moX5_earlyEnd_127 hE
set_option maxRecDepth 20000 in
theorem moX5_earlyEnd_107 {o : Int32 × Hp} {h : Hp} (hE : sX5_earlyEnd_107 h  = some o) : Le h o.2 := by
  exact le_some2 hE
set_option maxRecDepth 20000 in
theorem moX5_earlyEnd_45 {o : Int32 × Hp} {h : Hp} {x0 : Nat} {x1 : Nat} (hE : sX5_earlyEnd_45 h x0 x1 = some o) : Le h o.2 := by
  obtain ⟨o_1, eo_1, hE⟩ := cl_e hE
  refine (moX5_isOnHill eo_1).tr ?_
  rcases br_e hE with ⟨_, hE⟩ | ⟨_, hE⟩
  · obtain ⟨o_3, eo_3, hE⟩ := cl_e hE
    refine (moX5_isOnHill eo_3).tr ?_
    rcases br_e hE with ⟨_, hE⟩ | ⟨_, hE⟩
    · obtain ⟨r_5, er_5, hE⟩ := cl_e hE
      rcases br_e hE with ⟨_, hE⟩ | ⟨_, hE⟩
      · exact moX5_earlyEnd_109 hE
      · obtain ⟨r_7, er_7, hE⟩ := cl_e hE
        obtain ⟨g_8, hE⟩ := gd_e hE
        obtain ⟨r_9, er_9, hE⟩ := cl_e hE
        rcases br_e hE with ⟨_, hE⟩ | ⟨_, hE⟩
        · exact moX5_earlyEnd_107 hE
        · obtain ⟨r_11, er_11, hE⟩ := cl_e hE
          obtain ⟨g_12, hE⟩ := gd_e hE
          obtain ⟨r_13, er_13, hE⟩ := cl_e hE
          rcases br_e hE with ⟨_, hE⟩ | ⟨_, hE⟩
          · exact moX5_earlyEnd_109 hE
          · exact moX5_earlyEnd_107 hE
    · exact moX5_earlyEnd_63 hE
  · exact moX5_earlyEnd_63 hE
set_option maxRecDepth 20000 in
theorem moX5_earlyEnd_43 {o : Int32 × Hp} {h : Hp} (hE : sX5_earlyEnd_43 h  = some o) : Le h o.2 := by
  exact le_some2 hE
set_option maxRecDepth 20000 in
theorem moX5_earlyEnd {o : Int32 × Hp} {h : Hp} {x0 : Nat} {x1 : Nat} (hE : sX5_earlyEnd h x0 x1 = some o) : Le h o.2 := by
  obtain ⟨r_1, er_1, hE⟩ := cl_e hE
  obtain ⟨o_2, eo_2, hE⟩ := cl_e hE
  refine (moX1_has eo_2).tr ?_
  rcases br_e hE with ⟨_, hE⟩ | ⟨_, hE⟩
  · exact moX5_earlyEnd_45 hE
  · obtain ⟨r_4, er_4, hE⟩ := cl_e hE
    rcases br_e hE with ⟨_, hE⟩ | ⟨_, hE⟩
    · exact moX5_earlyEnd_45 hE
    · obtain ⟨r_6, er_6, hE⟩ := cl_e hE
      obtain ⟨g_7, hE⟩ := gd_e hE
      rcases br_e hE with ⟨_, hE⟩ | ⟨_, hE⟩
      · exact moX5_earlyEnd_43 hE
      · obtain ⟨r_9, er_9, hE⟩ := cl_e hE
        obtain ⟨g_10, hE⟩ := gd_e hE
        rcases br_e hE with ⟨_, hE⟩ | ⟨_, hE⟩
        · exact moX5_earlyEnd_43 hE
        · exact moX5_earlyEnd_45 hE
set_option maxRecDepth 20000 in
theorem bX5_earlyEnd_63 {p : Program} {l : Launch} {e : Env} {s : State} {m : MethodId} {args : Array Value} {below : List Frame} {meth : Method} {c : Code} {X : Ec} {h0 : Hp} {o : Int32 × Hp} (C : Cx X p s m args meth c RX5 cX5_earlyEnd 2 (some .int) "earlyEnd") {h : Hp} {H : Heap} {locs : List Loc} (hkm : Km h0 h) (hW : Wx X h H) (hZ : va_S (aA (eB X)) s.heap H locs) (ls : Array Slot) (hl : lv_has ls 2 []) (hE : sX5_earlyEnd_63 h  = some o) : W p l e (rm 1 22) s m args below meth c H locs 0 0 (MQ below (QI X h0 o.1 o.2) args s 0 0 (aA (eB X))) (F0 m 63 ls []) := by
  refine lv_iconst (v := (2 : Int32)) C.1 C.2.1 dX5_earlyEnd_63 (by decide) ?_
  exact x_iret C rfl rfl hW hZ hkm hE dX5_earlyEnd_64
set_option maxRecDepth 20000 in
theorem bX5_earlyEnd_132 {p : Program} {l : Launch} {e : Env} {s : State} {m : MethodId} {args : Array Value} {below : List Frame} {meth : Method} {c : Code} {X : Ec} {h0 : Hp} {o : Int32 × Hp} (C : Cx X p s m args meth c RX5 cX5_earlyEnd 2 (some .int) "earlyEnd") {h : Hp} {t0 : Int32} {H : Heap} {locs : List Loc} (hkm : Km h0 h) (hW : Wx X h H) (hZ : va_S (aA (eB X)) s.heap H locs) (ls : Array Slot) (hl : lv_has ls 2 []) (hE : sX5_earlyEnd_132 h  t0 = some o) : W p l e (rm 1 22) s m args below meth c H locs 0 0 (MQ below (QI X h0 o.1 o.2) args s 0 0 (aA (eB X))) (F0 m 132 ls [.int t0]) := by
  exact x_iret C rfl rfl hW hZ hkm hE dX5_earlyEnd_132
set_option maxRecDepth 20000 in
theorem bX5_earlyEnd_127 {p : Program} {l : Launch} {e : Env} {s : State} {m : MethodId} {args : Array Value} {below : List Frame} {meth : Method} {c : Code} {X : Ec} {h0 : Hp} {o : Int32 × Hp} (C : Cx X p s m args meth c RX5 cX5_earlyEnd 2 (some .int) "earlyEnd") {h : Hp} {H : Heap} {locs : List Loc} (hkm : Km h0 h) (hW : Wx X h H) (hZ : va_S (aA (eB X)) s.heap H locs) (ls : Array Slot) (hl : lv_has ls 2 []) (hE : sX5_earlyEnd_127 h  = some o) : W p l e (rm 1 22) s m args below meth c H locs 0 0 (MQ below (QI X h0 o.1 o.2) args s 0 0 (aA (eB X))) (F0 m 127 ls []) := by
  refine lv_iconst (v := (4 : Int32)) C.1 C.2.1 dX5_earlyEnd_127 (by decide) ?_
  refine lv_goto (tgt := 132) C.1 C.2.1 dX5_earlyEnd_128 (by decide) ?_
  exact bX5_earlyEnd_132 C hkm hW hZ _ (lv_sub hl [] rfl) hE
set_option maxRecDepth 20000 in
theorem bX5_earlyEnd_109 {p : Program} {l : Launch} {e : Env} {s : State} {m : MethodId} {args : Array Value} {below : List Frame} {meth : Method} {c : Code} {X : Ec} {h0 : Hp} {o : Int32 × Hp} (C : Cx X p s m args meth c RX5 cX5_earlyEnd 2 (some .int) "earlyEnd") {h : Hp} {x0 : Nat} {x1 : Nat} {H : Heap} {locs : List Loc} (k_x0 : hK h x0 = 5) (k_x1 : hK h x1 = 3) (hkm : Km h0 h) (hW : Wx X h H) (hZ : va_S (aA (eB X)) s.heap H locs) (ls : Array Slot) (hl : lv_has ls 2 [(0, .ref x0), (1, .ref x1)]) (hE : sX5_earlyEnd_109 h x0 x1 = some o) : W p l e (rm 1 22) s m args below meth c H locs 0 0 (MQ below (QI X h0 o.1 o.2) args s 0 0 (aA (eB X))) (F0 m 109 ls []) := by
  refine lv_aload_n C.1 C.2.1 dX5_earlyEnd_109 rfl (lv_at hl 0 rfl) ?_
  refine lv_aload_n C.1 C.2.1 dX5_earlyEnd_110 rfl (lv_at hl 1 rfl) ?_
  refine lv_iconst (v := (0 : Int32)) C.1 C.2.1 dX5_earlyEnd_111 (by decide) ?_
  obtain ⟨o_1, eo_1, hE⟩ := cl_e hE
  refine x_kI (o := o_1) (z_runV (As := [.ref x1, .int (0 : Int32)]) (rest := []) C (ct_X5_isBare l X k_x0 k_x1 eo_1) cw_X5_297 hW hZ k_x0 (by decide) rfl rfl rfl hl.1 (Nat.le_of_ble_eq_true rfl) rfl dX5_earlyEnd_112 ⟨Nat.le_of_ble_eq_true rfl, Nat.le_of_ble_eq_true rfl⟩ ⟨Nat.le_refl _, Nat.le_refl _⟩) hZ (fun _ _ hW km hZ => ?_)
  replace hkm := hkm.tr km
  replace k_x0 := km.at k_x0 (by decide)
  replace k_x1 := km.at k_x1 (by decide)
  refine lv_if_ne (tgt := 127) C.1 C.2.1 dX5_earlyEnd_115 (by decide) (fun c_2 => ?_) (fun c_2 => ?_)
  · have hE := br_n hE c_2
    exact bX5_earlyEnd_127 C hkm hW hZ _ (lv_sub hl [] rfl) hE
  · have hE := br_p hE c_2
    refine lv_aload_n C.1 C.2.1 dX5_earlyEnd_118 rfl (lv_at hl 0 rfl) ?_
    refine lv_aload_n C.1 C.2.1 dX5_earlyEnd_119 rfl (lv_at hl 1 rfl) ?_
    refine lv_iconst (v := (1 : Int32)) C.1 C.2.1 dX5_earlyEnd_120 (by decide) ?_
    obtain ⟨o_3, eo_3, hE⟩ := cl_e hE
    refine x_kI (o := o_3) (z_runV (As := [.ref x1, .int (1 : Int32)]) (rest := []) C (ct_X5_isBare l X k_x0 k_x1 eo_3) cw_X5_297 hW hZ k_x0 (by decide) rfl rfl rfl hl.1 (Nat.le_of_ble_eq_true rfl) rfl dX5_earlyEnd_121 ⟨Nat.le_of_ble_eq_true rfl, Nat.le_of_ble_eq_true rfl⟩ ⟨Nat.le_refl _, Nat.le_refl _⟩) hZ (fun _ _ hW km hZ => ?_)
    replace hkm := hkm.tr km
    replace k_x0 := km.at k_x0 (by decide)
    replace k_x1 := km.at k_x1 (by decide)
    refine lv_if_eq (tgt := 131) C.1 C.2.1 dX5_earlyEnd_124 (by decide) (fun c_4 => ?_) (fun c_4 => ?_)
    · have hE := br_p hE c_4
      refine lv_iconst (v := (0 : Int32)) C.1 C.2.1 dX5_earlyEnd_131 (by decide) ?_
      exact bX5_earlyEnd_132 C hkm hW hZ _ (lv_sub hl [] rfl) hE
    · have hE := br_n hE c_4
      exact bX5_earlyEnd_127 C hkm hW hZ _ (lv_sub hl [] rfl) hE
set_option maxRecDepth 20000 in
theorem bX5_earlyEnd_107 {p : Program} {l : Launch} {e : Env} {s : State} {m : MethodId} {args : Array Value} {below : List Frame} {meth : Method} {c : Code} {X : Ec} {h0 : Hp} {o : Int32 × Hp} (C : Cx X p s m args meth c RX5 cX5_earlyEnd 2 (some .int) "earlyEnd") {h : Hp} {H : Heap} {locs : List Loc} (hkm : Km h0 h) (hW : Wx X h H) (hZ : va_S (aA (eB X)) s.heap H locs) (ls : Array Slot) (hl : lv_has ls 2 []) (hE : sX5_earlyEnd_107 h  = some o) : W p l e (rm 1 22) s m args below meth c H locs 0 0 (MQ below (QI X h0 o.1 o.2) args s 0 0 (aA (eB X))) (F0 m 107 ls []) := by
  refine lv_iconst (v := (3 : Int32)) C.1 C.2.1 dX5_earlyEnd_107 (by decide) ?_
  exact x_iret C rfl rfl hW hZ hkm hE dX5_earlyEnd_108
set_option maxRecDepth 20000 in
theorem bX5_earlyEnd_45 {p : Program} {l : Launch} {e : Env} {s : State} {m : MethodId} {args : Array Value} {below : List Frame} {meth : Method} {c : Code} {X : Ec} {h0 : Hp} {o : Int32 × Hp} (C : Cx X p s m args meth c RX5 cX5_earlyEnd 2 (some .int) "earlyEnd") {h : Hp} {x0 : Nat} {x1 : Nat} {H : Heap} {locs : List Loc} (k_x0 : hK h x0 = 5) (k_x1 : hK h x1 = 3) (hkm : Km h0 h) (hW : Wx X h H) (hZ : va_S (aA (eB X)) s.heap H locs) (ls : Array Slot) (hl : lv_has ls 2 [(0, .ref x0), (1, .ref x1)]) (hE : sX5_earlyEnd_45 h x0 x1 = some o) : W p l e (rm 1 22) s m args below meth c H locs 0 0 (MQ below (QI X h0 o.1 o.2) args s 0 0 (aA (eB X))) (F0 m 45 ls []) := by
  refine lv_aload_n C.1 C.2.1 dX5_earlyEnd_45 rfl (lv_at hl 0 rfl) ?_
  refine lv_aload_n C.1 C.2.1 dX5_earlyEnd_46 rfl (lv_at hl 1 rfl) ?_
  refine lv_iconst (v := (0 : Int32)) C.1 C.2.1 dX5_earlyEnd_47 (by decide) ?_
  obtain ⟨o_1, eo_1, hE⟩ := cl_e hE
  refine x_kI (o := o_1) (z_runV (As := [.ref x1, .int (0 : Int32)]) (rest := []) C (ct_X5_isOnHill l X k_x0 k_x1 eo_1) cw_X5_294 hW hZ k_x0 (by decide) rfl rfl rfl hl.1 (Nat.le_of_ble_eq_true rfl) rfl dX5_earlyEnd_48 ⟨Nat.le_of_ble_eq_true rfl, Nat.le_of_ble_eq_true rfl⟩ ⟨Nat.le_refl _, Nat.le_refl _⟩) hZ (fun _ _ hW km hZ => ?_)
  replace hkm := hkm.tr km
  replace k_x0 := km.at k_x0 (by decide)
  replace k_x1 := km.at k_x1 (by decide)
  refine lv_if_ne (tgt := 63) C.1 C.2.1 dX5_earlyEnd_51 (by decide) (fun c_2 => ?_) (fun c_2 => ?_)
  · have hE := br_n hE c_2
    exact bX5_earlyEnd_63 C hkm hW hZ _ (lv_sub hl [] rfl) hE
  · have hE := br_p hE c_2
    refine lv_aload_n C.1 C.2.1 dX5_earlyEnd_54 rfl (lv_at hl 0 rfl) ?_
    refine lv_aload_n C.1 C.2.1 dX5_earlyEnd_55 rfl (lv_at hl 1 rfl) ?_
    refine lv_iconst (v := (1 : Int32)) C.1 C.2.1 dX5_earlyEnd_56 (by decide) ?_
    obtain ⟨o_3, eo_3, hE⟩ := cl_e hE
    refine x_kI (o := o_3) (z_runV (As := [.ref x1, .int (1 : Int32)]) (rest := []) C (ct_X5_isOnHill l X k_x0 k_x1 eo_3) cw_X5_294 hW hZ k_x0 (by decide) rfl rfl rfl hl.1 (Nat.le_of_ble_eq_true rfl) rfl dX5_earlyEnd_57 ⟨Nat.le_of_ble_eq_true rfl, Nat.le_of_ble_eq_true rfl⟩ ⟨Nat.le_refl _, Nat.le_refl _⟩) hZ (fun _ _ hW km hZ => ?_)
    replace hkm := hkm.tr km
    replace k_x0 := km.at k_x0 (by decide)
    replace k_x1 := km.at k_x1 (by decide)
    refine lv_if_eq (tgt := 65) C.1 C.2.1 dX5_earlyEnd_60 (by decide) (fun c_4 => ?_) (fun c_4 => ?_)
    · have hE := br_p hE c_4
      refine lv_aload_n C.1 C.2.1 dX5_earlyEnd_65 rfl (lv_at hl 0 rfl) ?_
      obtain ⟨r_5, er_5, hE⟩ := cl_e hE
      refine gf_X5_22 C hW k_x0 er_5 dX5_earlyEnd_66 (fun k_r_5 => ?_)
      refine gf_X5_276 C hW k_r_5 dX5_earlyEnd_69 ?_
      refine lv_if_le (tgt := 109) C.1 C.2.1 dX5_earlyEnd_72 (by decide) (fun c_6 => ?_) (fun c_6 => ?_)
      · have hE := br_p hE c_6
        exact bX5_earlyEnd_109 C k_x0 k_x1 hkm hW hZ _ (lv_sub hl [0, 1] rfl) hE
      · have hE := br_n hE c_6
        refine lv_aload_n C.1 C.2.1 dX5_earlyEnd_75 rfl (lv_at hl 1 rfl) ?_
        obtain ⟨r_7, er_7, hE⟩ := cl_e hE
        refine gf_X5_283 C hW k_x1 er_7 dX5_earlyEnd_76 (fun k_r_7 => ?_)
        refine lv_iconst (v := (0 : Int32)) C.1 C.2.1 dX5_earlyEnd_79 (by decide) ?_
        obtain ⟨g_8, hE⟩ := gd_e hE
        refine y_iald C hW k_r_7 g_8 dX5_earlyEnd_80 ?_
        refine lv_aload_n C.1 C.2.1 dX5_earlyEnd_81 rfl (lv_at hl 0 rfl) ?_
        obtain ⟨r_9, er_9, hE⟩ := cl_e hE
        refine gf_X5_22 C hW k_x0 er_9 dX5_earlyEnd_82 (fun k_r_9 => ?_)
        refine gf_X5_276 C hW k_r_9 dX5_earlyEnd_85 ?_
        refine lv_icmp_ge (tgt := 107) C.1 C.2.1 dX5_earlyEnd_88 (by decide) (fun c_10 => ?_) (fun c_10 => ?_)
        · have hE := br_p hE c_10
          exact bX5_earlyEnd_107 C hkm hW hZ _ (lv_sub hl [] rfl) hE
        · have hE := br_n hE c_10
          refine lv_aload_n C.1 C.2.1 dX5_earlyEnd_91 rfl (lv_at hl 1 rfl) ?_
          obtain ⟨r_11, er_11, hE⟩ := cl_e hE
          refine gf_X5_283 C hW k_x1 er_11 dX5_earlyEnd_92 (fun k_r_11 => ?_)
          refine lv_iconst (v := (1 : Int32)) C.1 C.2.1 dX5_earlyEnd_95 (by decide) ?_
          obtain ⟨g_12, hE⟩ := gd_e hE
          refine y_iald C hW k_r_11 g_12 dX5_earlyEnd_96 ?_
          refine lv_aload_n C.1 C.2.1 dX5_earlyEnd_97 rfl (lv_at hl 0 rfl) ?_
          obtain ⟨r_13, er_13, hE⟩ := cl_e hE
          refine gf_X5_22 C hW k_x0 er_13 dX5_earlyEnd_98 (fun k_r_13 => ?_)
          refine gf_X5_276 C hW k_r_13 dX5_earlyEnd_101 ?_
          refine lv_icmp_lt (tgt := 109) C.1 C.2.1 dX5_earlyEnd_104 (by decide) (fun c_14 => ?_) (fun c_14 => ?_)
          · have hE := br_p hE c_14
            exact bX5_earlyEnd_109 C k_x0 k_x1 hkm hW hZ _ (lv_sub hl [0, 1] rfl) hE
          · have hE := br_n hE c_14
            exact bX5_earlyEnd_107 C hkm hW hZ _ (lv_sub hl [] rfl) hE
    · have hE := br_n hE c_4
      exact bX5_earlyEnd_63 C hkm hW hZ _ (lv_sub hl [] rfl) hE
set_option maxRecDepth 20000 in
theorem bX5_earlyEnd_43 {p : Program} {l : Launch} {e : Env} {s : State} {m : MethodId} {args : Array Value} {below : List Frame} {meth : Method} {c : Code} {X : Ec} {h0 : Hp} {o : Int32 × Hp} (C : Cx X p s m args meth c RX5 cX5_earlyEnd 2 (some .int) "earlyEnd") {h : Hp} {H : Heap} {locs : List Loc} (hkm : Km h0 h) (hW : Wx X h H) (hZ : va_S (aA (eB X)) s.heap H locs) (ls : Array Slot) (hl : lv_has ls 2 []) (hE : sX5_earlyEnd_43 h  = some o) : W p l e (rm 1 22) s m args below meth c H locs 0 0 (MQ below (QI X h0 o.1 o.2) args s 0 0 (aA (eB X))) (F0 m 43 ls []) := by
  refine lv_iconst (v := (1 : Int32)) C.1 C.2.1 dX5_earlyEnd_43 (by decide) ?_
  exact x_iret C rfl rfl hW hZ hkm hE dX5_earlyEnd_44
set_option maxRecDepth 20000 in
theorem ct_X5_earlyEnd (l : Launch) (X : Ec) {h : Hp} {x0 : Nat} {x1 : Nat} {o : Int32 × Hp} (k_x0 : hK h x0 = 5) (k_x1 : hK h x1 = 3) (hE : sX5_earlyEnd h x0 x1 = some o) : MetI l yX5_earlyEnd cX5_earlyEnd 2 (some .int) 1 22 X [.ref x0, .ref x1] h o := by
  refine x_met (by decide) (Nat.le_of_ble_eq_true rfl) ?_
  intro p e s m below meth c ls C hl hW hZ
  have hl : lv_has ls 2 [(0, .ref x0), (1, .ref x1)] := hl
  have hkm : Km h h := Km.rf h
  refine lv_aload_n C.1 C.2.1 dX5_earlyEnd_0 rfl (lv_at hl 0 rfl) ?_
  obtain ⟨r_1, er_1, hE⟩ := cl_e hE
  refine gf_X5_22 C hW k_x0 er_1 dX5_earlyEnd_1 (fun k_r_1 => ?_)
  refine lv_bipush (v := (8 : Int32)) C.1 C.2.1 dX5_earlyEnd_4 (by decide) ?_
  obtain ⟨o_2, eo_2, hE⟩ := cl_e hE
  refine x_kI (o := o_2) (z_runV (As := [.int (8 : Int32)]) (rest := []) C (ct_X1_has l X k_r_1 eo_2) cw_X5_104 hW hZ k_r_1 (by decide) rfl rfl rfl hl.1 (Nat.le_of_ble_eq_true rfl) rfl dX5_earlyEnd_6 ⟨Nat.le_of_ble_eq_true rfl, Nat.le_of_ble_eq_true rfl⟩ ⟨Nat.le_refl _, Nat.le_refl _⟩) hZ (fun _ _ hW km hZ => ?_)
  replace hkm := hkm.tr km
  replace k_x0 := km.at k_x0 (by decide)
  replace k_x1 := km.at k_x1 (by decide)
  refine lv_if_eq (tgt := 45) C.1 C.2.1 dX5_earlyEnd_9 (by decide) (fun c_3 => ?_) (fun c_3 => ?_)
  · have hE := br_p hE c_3
    exact bX5_earlyEnd_45 C k_x0 k_x1 hkm hW hZ _ (lv_sub hl [0, 1] rfl) hE
  · have hE := br_n hE c_3
    refine lv_aload_n C.1 C.2.1 dX5_earlyEnd_12 rfl (lv_at hl 0 rfl) ?_
    obtain ⟨r_4, er_4, hE⟩ := cl_e hE
    refine gf_X5_22 C hW k_x0 er_4 dX5_earlyEnd_13 (fun k_r_4 => ?_)
    refine gf_X5_129 C hW k_r_4 dX5_earlyEnd_16 ?_
    refine lv_iconst (v := (-1 : Int32)) C.1 C.2.1 dX5_earlyEnd_19 (by decide) ?_
    refine lv_icmp_eq (tgt := 45) C.1 C.2.1 dX5_earlyEnd_20 (by decide) (fun c_5 => ?_) (fun c_5 => ?_)
    · have hE := br_p hE c_5
      exact bX5_earlyEnd_45 C k_x0 k_x1 hkm hW hZ _ (lv_sub hl [0, 1] rfl) hE
    · have hE := br_n hE c_5
      refine lv_aload_n C.1 C.2.1 dX5_earlyEnd_23 rfl (lv_at hl 1 rfl) ?_
      obtain ⟨r_6, er_6, hE⟩ := cl_e hE
      refine gf_X5_60 C hW k_x1 er_6 dX5_earlyEnd_24 (fun k_r_6 => ?_)
      refine lv_iconst (v := (0 : Int32)) C.1 C.2.1 dX5_earlyEnd_27 (by decide) ?_
      obtain ⟨g_7, hE⟩ := gd_e hE
      refine y_iald C hW k_r_6 g_7 dX5_earlyEnd_28 ?_
      refine lv_iconst (v := (-1 : Int32)) C.1 C.2.1 dX5_earlyEnd_29 (by decide) ?_
      refine lv_icmp_eq (tgt := 43) C.1 C.2.1 dX5_earlyEnd_30 (by decide) (fun c_8 => ?_) (fun c_8 => ?_)
      · have hE := br_p hE c_8
        exact bX5_earlyEnd_43 C hkm hW hZ _ (lv_sub hl [] rfl) hE
      · have hE := br_n hE c_8
        refine lv_aload_n C.1 C.2.1 dX5_earlyEnd_33 rfl (lv_at hl 1 rfl) ?_
        obtain ⟨r_9, er_9, hE⟩ := cl_e hE
        refine gf_X5_60 C hW k_x1 er_9 dX5_earlyEnd_34 (fun k_r_9 => ?_)
        refine lv_iconst (v := (1 : Int32)) C.1 C.2.1 dX5_earlyEnd_37 (by decide) ?_
        obtain ⟨g_10, hE⟩ := gd_e hE
        refine y_iald C hW k_r_9 g_10 dX5_earlyEnd_38 ?_
        refine lv_iconst (v := (-1 : Int32)) C.1 C.2.1 dX5_earlyEnd_39 (by decide) ?_
        refine lv_icmp_ne (tgt := 45) C.1 C.2.1 dX5_earlyEnd_40 (by decide) (fun c_11 => ?_) (fun c_11 => ?_)
        · have hE := br_n hE c_11
          exact bX5_earlyEnd_45 C k_x0 k_x1 hkm hW hZ _ (lv_sub hl [0, 1] rfl) hE
        · have hE := br_p hE c_11
          exact bX5_earlyEnd_43 C hkm hW hZ _ (lv_sub hl [] rfl) hE
theorem dX5_leads_0 : decode cX5_leads 0 = .ok (.aload_n 0, 1) := by decide +kernel
theorem dX5_leads_1 : decode cX5_leads 1 = .ok (.getfield 26, 3) := by decide +kernel
theorem dX5_leads_4 : decode cX5_leads 4 = .ok (.getfield 54, 3) := by decide +kernel
theorem dX5_leads_7 : decode cX5_leads 7 = .ok (.iload_n 2, 1) := by decide +kernel
theorem dX5_leads_8 : decode cX5_leads 8 = .ok (.iaload, 1) := by decide +kernel
theorem dX5_leads_9 : decode cX5_leads 9 = .ok (.bipush 6, 2) := by decide +kernel
theorem dX5_leads_11 : decode cX5_leads 11 = .ok (.ishr, 1) := by decide +kernel
theorem dX5_leads_12 : decode cX5_leads 12 = .ok (.bipush 63, 2) := by decide +kernel
theorem dX5_leads_14 : decode cX5_leads 14 = .ok (.iand, 1) := by decide +kernel
theorem dX5_leads_15 : decode cX5_leads 15 = .ok (.istore 4, 2) := by decide +kernel
theorem dX5_leads_17 : decode cX5_leads 17 = .ok (.lconst 1, 1) := by decide +kernel
theorem dX5_leads_18 : decode cX5_leads 18 = .ok (.aload_n 0, 1) := by decide +kernel
theorem dX5_leads_19 : decode cX5_leads 19 = .ok (.getfield 26, 3) := by decide +kernel
theorem dX5_leads_22 : decode cX5_leads 22 = .ok (.getfield 54, 3) := by decide +kernel
theorem dX5_leads_25 : decode cX5_leads 25 = .ok (.iload_n 2, 1) := by decide +kernel
theorem dX5_leads_26 : decode cX5_leads 26 = .ok (.iaload, 1) := by decide +kernel
theorem dX5_leads_27 : decode cX5_leads 27 = .ok (.bipush 63, 2) := by decide +kernel
theorem dX5_leads_29 : decode cX5_leads 29 = .ok (.iand, 1) := by decide +kernel
theorem dX5_leads_30 : decode cX5_leads 30 = .ok (.lshl, 1) := by decide +kernel
theorem dX5_leads_31 : decode cX5_leads 31 = .ok (.lstore 5, 2) := by decide +kernel
theorem dX5_leads_33 : decode cX5_leads 33 = .ok (.aload_n 1, 1) := by decide +kernel
theorem dX5_leads_34 : decode cX5_leads 34 = .ok (.getfield 33, 3) := by decide +kernel
theorem dX5_leads_37 : decode cX5_leads 37 = .ok (.iload_n 3, 1) := by decide +kernel
theorem dX5_leads_38 : decode cX5_leads 38 = .ok (.laload, 1) := by decide +kernel
theorem dX5_leads_39 : decode cX5_leads 39 = .ok (.lload 5, 2) := by decide +kernel
theorem dX5_leads_41 : decode cX5_leads 41 = .ok (.land, 1) := by decide +kernel
theorem dX5_leads_42 : decode cX5_leads 42 = .ok (.lconst 0, 1) := by decide +kernel
theorem dX5_leads_43 : decode cX5_leads 43 = .ok (.lcmp, 1) := by decide +kernel
theorem dX5_leads_44 : decode cX5_leads 44 = .ok (.ifCond .ne 18, 3) := by decide +kernel
theorem dX5_leads_47 : decode cX5_leads 47 = .ok (.aload_n 0, 1) := by decide +kernel
theorem dX5_leads_48 : decode cX5_leads 48 = .ok (.getfield 26, 3) := by decide +kernel
theorem dX5_leads_51 : decode cX5_leads 51 = .ok (.iload_n 2, 1) := by decide +kernel
theorem dX5_leads_52 : decode cX5_leads 52 = .ok (.aload_n 1, 1) := by decide +kernel
theorem dX5_leads_53 : decode cX5_leads 53 = .ok (.invokevirtual 138, 3) := by decide +kernel
theorem dX5_leads_56 : decode cX5_leads 56 = .ok (.invokevirtual 146, 3) := by decide +kernel
theorem dX5_leads_59 : decode cX5_leads 59 = .ok (.ifCond .ne 5, 3) := by decide +kernel
theorem dX5_leads_62 : decode cX5_leads 62 = .ok (.iconst 0, 1) := by decide +kernel
theorem dX5_leads_63 : decode cX5_leads 63 = .ok (.ireturn, 1) := by decide +kernel
theorem dX5_leads_64 : decode cX5_leads 64 = .ok (.iload 4, 2) := by decide +kernel
theorem dX5_leads_66 : decode cX5_leads 66 = .ok (.bipush 32, 2) := by decide +kernel
theorem dX5_leads_68 : decode cX5_leads 68 = .ok (.iand, 1) := by decide +kernel
theorem dX5_leads_69 : decode cX5_leads 69 = .ok (.ifCond .eq 25, 3) := by decide +kernel
theorem dX5_leads_72 : decode cX5_leads 72 = .ok (.iload_n 3, 1) := by decide +kernel
theorem dX5_leads_73 : decode cX5_leads 73 = .ok (.aload_n 1, 1) := by decide +kernel
theorem dX5_leads_74 : decode cX5_leads 74 = .ok (.getfield 78, 3) := by decide +kernel
theorem dX5_leads_77 : decode cX5_leads 77 = .ok (.if_icmp .ne 17, 3) := by decide +kernel
theorem dX5_leads_80 : decode cX5_leads 80 = .ok (.aload_n 1, 1) := by decide +kernel
theorem dX5_leads_81 : decode cX5_leads 81 = .ok (.getfield 150, 3) := by decide +kernel
theorem dX5_leads_84 : decode cX5_leads 84 = .ok (.lload 5, 2) := by decide +kernel
theorem dX5_leads_86 : decode cX5_leads 86 = .ok (.land, 1) := by decide +kernel
theorem dX5_leads_87 : decode cX5_leads 87 = .ok (.lconst 0, 1) := by decide +kernel
theorem dX5_leads_88 : decode cX5_leads 88 = .ok (.lcmp, 1) := by decide +kernel
theorem dX5_leads_89 : decode cX5_leads 89 = .ok (.ifCond .eq 5, 3) := by decide +kernel
theorem dX5_leads_92 : decode cX5_leads 92 = .ok (.iconst 1, 1) := by decide +kernel
theorem dX5_leads_93 : decode cX5_leads 93 = .ok (.ireturn, 1) := by decide +kernel
theorem dX5_leads_94 : decode cX5_leads 94 = .ok (.aload_n 1, 1) := by decide +kernel
theorem dX5_leads_95 : decode cX5_leads 95 = .ok (.getfield 33, 3) := by decide +kernel
theorem dX5_leads_98 : decode cX5_leads 98 = .ok (.iconst 1, 1) := by decide +kernel
theorem dX5_leads_99 : decode cX5_leads 99 = .ok (.iload_n 3, 1) := by decide +kernel
theorem dX5_leads_100 : decode cX5_leads 100 = .ok (.isub, 1) := by decide +kernel
theorem dX5_leads_101 : decode cX5_leads 101 = .ok (.laload, 1) := by decide +kernel
theorem dX5_leads_102 : decode cX5_leads 102 = .ok (.lload 5, 2) := by decide +kernel
theorem dX5_leads_104 : decode cX5_leads 104 = .ok (.land, 1) := by decide +kernel
theorem dX5_leads_105 : decode cX5_leads 105 = .ok (.lconst 0, 1) := by decide +kernel
theorem dX5_leads_106 : decode cX5_leads 106 = .ok (.lcmp, 1) := by decide +kernel
theorem dX5_leads_107 : decode cX5_leads 107 = .ok (.ifCond .eq 7, 3) := by decide +kernel
theorem dX5_leads_110 : decode cX5_leads 110 = .ok (.iconst 1, 1) := by decide +kernel
theorem dX5_leads_111 : decode cX5_leads 111 = .ok (.goto 4, 3) := by decide +kernel
theorem dX5_leads_114 : decode cX5_leads 114 = .ok (.iconst 0, 1) := by decide +kernel
theorem dX5_leads_115 : decode cX5_leads 115 = .ok (.istore 7, 2) := by decide +kernel
theorem dX5_leads_117 : decode cX5_leads 117 = .ok (.iload 4, 2) := by decide +kernel
theorem dX5_leads_119 : decode cX5_leads 119 = .ok (.iload 7, 2) := by decide +kernel
theorem dX5_leads_121 : decode cX5_leads 121 = .ok (.ifCond .eq 7, 3) := by decide +kernel
theorem dX5_leads_124 : decode cX5_leads 124 = .ok (.iconst 1, 1) := by decide +kernel
theorem dX5_leads_125 : decode cX5_leads 125 = .ok (.goto 4, 3) := by decide +kernel
theorem dX5_leads_128 : decode cX5_leads 128 = .ok (.iconst 2, 1) := by decide +kernel
theorem dX5_leads_129 : decode cX5_leads 129 = .ok (.iand, 1) := by decide +kernel
theorem dX5_leads_130 : decode cX5_leads 130 = .ok (.ifCond .ne 7, 3) := by decide +kernel
theorem dX5_leads_133 : decode cX5_leads 133 = .ok (.iconst 1, 1) := by decide +kernel
theorem dX5_leads_134 : decode cX5_leads 134 = .ok (.goto 4, 3) := by decide +kernel
theorem dX5_leads_137 : decode cX5_leads 137 = .ok (.iconst 0, 1) := by decide +kernel
theorem dX5_leads_138 : decode cX5_leads 138 = .ok (.ireturn, 1) := by decide +kernel
set_option maxRecDepth 20000 in
theorem moX5_leads_62 {o : Int32 × Hp} {h : Hp} (hE : sX5_leads_62 h  = some o) : Le h o.2 := by
  exact le_some2 hE
set_option maxRecDepth 20000 in
theorem moX5_leads_138 {o : Int32 × Hp} {h : Hp} {t0 : Int32} (hE : sX5_leads_138 h  t0 = some o) : Le h o.2 := by
  obtain ⟨g_1, hE⟩ := gd_e hE
  exact le_some2 hE
set_option maxRecDepth 20000 in
theorem moX5_leads_129 {o : Int32 × Hp} {h : Hp} {t0 : Int32} {t1 : Int32} (hE : sX5_leads_129 h  t0 t1 = some o) : Le h o.2 := by
  rcases br_e hE with ⟨_, hE⟩ | ⟨_, hE⟩
  · exact moX5_leads_138 hE
  · exact moX5_leads_138 hE
set_option maxRecDepth 20000 in
theorem moX5_leads_115 {o : Int32 × Hp} {h : Hp} {x4 : Int32} {t0 : Int32} (hE : sX5_leads_115 h x4 t0 = some o) : Le h o.2 := by
  rcases br_e hE with ⟨_, hE⟩ | ⟨_, hE⟩
  · exact moX5_leads_129 hE
  · exact moX5_leads_129 hE
set_option maxRecDepth 20000 in
theorem moX5_leads_94 {o : Int32 × Hp} {h : Hp} {x1 : Nat} {x3 : Int32} {x4 : Int32} {x5 : Int64} (hE : sX5_leads_94 h x1 x3 x4 x5 = some o) : Le h o.2 := by
  obtain ⟨r_1, er_1, hE⟩ := cl_e hE
  obtain ⟨g_2, hE⟩ := gd_e hE
  rcases br_e hE with ⟨_, hE⟩ | ⟨_, hE⟩
  · exact moX5_leads_115 hE
  · exact moX5_leads_115 hE
set_option maxRecDepth 20000 in
theorem moX5_leads {o : Int32 × Hp} {h : Hp} {x0 : Nat} {x1 : Nat} {x2 : Int32} {x3 : Int32} (hE : sX5_leads h x0 x1 x2 x3 = some o) : Le h o.2 := by
  obtain ⟨r_1, er_1, hE⟩ := cl_e hE
  obtain ⟨r_2, er_2, hE⟩ := cl_e hE
  obtain ⟨g_3, hE⟩ := gd_e hE
  obtain ⟨v_4, ev_4, hE⟩ := nm_e2 hE
  obtain ⟨r_5, er_5, hE⟩ := cl_e hE
  obtain ⟨r_6, er_6, hE⟩ := cl_e hE
  obtain ⟨g_7, hE⟩ := gd_e hE
  obtain ⟨v_8, ev_8, hE⟩ := nm_e2 hE
  obtain ⟨r_9, er_9, hE⟩ := cl_e hE
  obtain ⟨g_10, hE⟩ := gd_e hE
  rcases br_e hE with ⟨_, hE⟩ | ⟨_, hE⟩
  · obtain ⟨r_12, er_12, hE⟩ := cl_e hE
    obtain ⟨o_13, eo_13, hE⟩ := cl_e hE
    refine (moX3_occupied eo_13).tr ?_
    obtain ⟨o_14, eo_14, hE⟩ := cl_e hE
    refine (moX10_isOpen eo_14).tr ?_
    rcases br_e hE with ⟨_, hE⟩ | ⟨_, hE⟩
    · exact moX5_leads_62 hE
    · rcases br_e hE with ⟨_, hE⟩ | ⟨_, hE⟩
      · exact moX5_leads_94 hE
      · rcases br_e hE with ⟨_, hE⟩ | ⟨_, hE⟩
        · rcases br_e hE with ⟨_, hE⟩ | ⟨_, hE⟩
          · exact moX5_leads_94 hE
          · exact le_some2 hE
        · exact moX5_leads_94 hE
  · exact moX5_leads_62 hE
set_option maxRecDepth 20000 in
theorem bX5_leads_62 {p : Program} {l : Launch} {e : Env} {s : State} {m : MethodId} {args : Array Value} {below : List Frame} {meth : Method} {c : Code} {X : Ec} {h0 : Hp} {o : Int32 × Hp} (C : Cx X p s m args meth c RX5 cX5_leads 8 (some .boolean) "leads") {h : Hp} {H : Heap} {locs : List Loc} (hkm : Km h0 h) (hW : Wx X h H) (hZ : va_S (aA (eB X)) s.heap H locs) (ls : Array Slot) (hl : lv_has ls 8 []) (hE : sX5_leads_62 h  = some o) : W p l e (rm 1 25) s m args below meth c H locs 0 0 (MQ below (QI X h0 o.1 o.2) args s 0 0 (aA (eB X))) (F0 m 62 ls []) := by
  refine lv_iconst (v := (0 : Int32)) C.1 C.2.1 dX5_leads_62 (by decide) ?_
  exact x_iret C rfl (by decide) hW hZ hkm hE dX5_leads_63
set_option maxRecDepth 20000 in
theorem bX5_leads_138 {p : Program} {l : Launch} {e : Env} {s : State} {m : MethodId} {args : Array Value} {below : List Frame} {meth : Method} {c : Code} {X : Ec} {h0 : Hp} {o : Int32 × Hp} (C : Cx X p s m args meth c RX5 cX5_leads 8 (some .boolean) "leads") {h : Hp} {t0 : Int32} {H : Heap} {locs : List Loc} (hkm : Km h0 h) (hW : Wx X h H) (hZ : va_S (aA (eB X)) s.heap H locs) (ls : Array Slot) (hl : lv_has ls 8 []) (hE : sX5_leads_138 h  t0 = some o) : W p l e (rm 1 25) s m args below meth c H locs 0 0 (MQ below (QI X h0 o.1 o.2) args s 0 0 (aA (eB X))) (F0 m 138 ls [.int t0]) := by
  obtain ⟨g_1, hE⟩ := gd_e hE
  exact x_iret C rfl (narB g_1) hW hZ hkm hE dX5_leads_138
set_option maxRecDepth 20000 in
theorem bX5_leads_129 {p : Program} {l : Launch} {e : Env} {s : State} {m : MethodId} {args : Array Value} {below : List Frame} {meth : Method} {c : Code} {X : Ec} {h0 : Hp} {o : Int32 × Hp} (C : Cx X p s m args meth c RX5 cX5_leads 8 (some .boolean) "leads") {h : Hp} {t0 : Int32} {t1 : Int32} {H : Heap} {locs : List Loc} (hkm : Km h0 h) (hW : Wx X h H) (hZ : va_S (aA (eB X)) s.heap H locs) (ls : Array Slot) (hl : lv_has ls 8 []) (hE : sX5_leads_129 h  t0 t1 = some o) : W p l e (rm 1 25) s m args below meth c H locs 0 0 (MQ below (QI X h0 o.1 o.2) args s 0 0 (aA (eB X))) (F0 m 129 ls [.int t0, .int t1]) := by
  refine lv_iand C.1 C.2.1 dX5_leads_129 ?_
  refine lv_if_ne (tgt := 137) C.1 C.2.1 dX5_leads_130 (by decide) (fun c_1 => ?_) (fun c_1 => ?_)
  · have hE := br_n hE c_1
    refine lv_iconst (v := (0 : Int32)) C.1 C.2.1 dX5_leads_137 (by decide) ?_
    exact bX5_leads_138 C hkm hW hZ _ (lv_sub hl [] rfl) hE
  · have hE := br_p hE c_1
    refine lv_iconst (v := (1 : Int32)) C.1 C.2.1 dX5_leads_133 (by decide) ?_
    refine lv_goto (tgt := 138) C.1 C.2.1 dX5_leads_134 (by decide) ?_
    exact bX5_leads_138 C hkm hW hZ _ (lv_sub hl [] rfl) hE
set_option maxRecDepth 20000 in
theorem bX5_leads_115 {p : Program} {l : Launch} {e : Env} {s : State} {m : MethodId} {args : Array Value} {below : List Frame} {meth : Method} {c : Code} {X : Ec} {h0 : Hp} {o : Int32 × Hp} (C : Cx X p s m args meth c RX5 cX5_leads 8 (some .boolean) "leads") {h : Hp} {x4 : Int32} {t0 : Int32} {H : Heap} {locs : List Loc} (hkm : Km h0 h) (hW : Wx X h H) (hZ : va_S (aA (eB X)) s.heap H locs) (ls : Array Slot) (hl : lv_has ls 8 [(4, .int x4)]) (hE : sX5_leads_115 h x4 t0 = some o) : W p l e (rm 1 25) s m args below meth c H locs 0 0 (MQ below (QI X h0 o.1 o.2) args s 0 0 (aA (eB X))) (F0 m 115 ls [.int t0]) := by
  refine lv_istore (lv' := [(7, .int t0), (4, .int x4)]) C.1 C.2.1 dX5_leads_115 hl (by decide) rfl (fun ls hl => ?_)
  refine lv_iload C.1 C.2.1 dX5_leads_117 (lv_at hl 1 rfl) ?_
  refine lv_iload C.1 C.2.1 dX5_leads_119 (lv_at hl 0 rfl) ?_
  refine lv_if_eq (tgt := 128) C.1 C.2.1 dX5_leads_121 (by decide) (fun c_1 => ?_) (fun c_1 => ?_)
  · have hE := br_p hE c_1
    refine lv_iconst (v := (2 : Int32)) C.1 C.2.1 dX5_leads_128 (by decide) ?_
    exact bX5_leads_129 C hkm hW hZ _ (lv_sub hl [] rfl) hE
  · have hE := br_n hE c_1
    refine lv_iconst (v := (1 : Int32)) C.1 C.2.1 dX5_leads_124 (by decide) ?_
    refine lv_goto (tgt := 129) C.1 C.2.1 dX5_leads_125 (by decide) ?_
    exact bX5_leads_129 C hkm hW hZ _ (lv_sub hl [] rfl) hE
set_option maxRecDepth 20000 in
theorem bX5_leads_94 {p : Program} {l : Launch} {e : Env} {s : State} {m : MethodId} {args : Array Value} {below : List Frame} {meth : Method} {c : Code} {X : Ec} {h0 : Hp} {o : Int32 × Hp} (C : Cx X p s m args meth c RX5 cX5_leads 8 (some .boolean) "leads") {h : Hp} {x1 : Nat} {x3 : Int32} {x4 : Int32} {x5 : Int64} {H : Heap} {locs : List Loc} (k_x1 : hK h x1 = 3) (hkm : Km h0 h) (hW : Wx X h H) (hZ : va_S (aA (eB X)) s.heap H locs) (ls : Array Slot) (hl : lv_has ls 8 [(1, .ref x1), (3, .int x3), (4, .int x4), (5, .long x5)]) (hE : sX5_leads_94 h x1 x3 x4 x5 = some o) : W p l e (rm 1 25) s m args below meth c H locs 0 0 (MQ below (QI X h0 o.1 o.2) args s 0 0 (aA (eB X))) (F0 m 94 ls []) := by
  refine lv_aload_n C.1 C.2.1 dX5_leads_94 rfl (lv_at hl 0 rfl) ?_
  obtain ⟨r_1, er_1, hE⟩ := cl_e hE
  refine gf_X5_33 C hW k_x1 er_1 dX5_leads_95 (fun k_r_1 => ?_)
  refine lv_iconst (v := (1 : Int32)) C.1 C.2.1 dX5_leads_98 (by decide) ?_
  refine lv_iload_n C.1 C.2.1 dX5_leads_99 rfl (lv_at hl 1 rfl) ?_
  refine lv_isub C.1 C.2.1 dX5_leads_100 ?_
  obtain ⟨g_2, hE⟩ := gd_e hE
  refine y_lald C hW k_r_1 g_2 dX5_leads_101 ?_
  refine lv_lload C.1 C.2.1 dX5_leads_102 (lv_at hl 3 rfl) ?_
  refine lv_land C.1 C.2.1 dX5_leads_104 ?_
  refine lv_lconst (v := (0 : Int64)) C.1 C.2.1 dX5_leads_105 (by decide) ?_
  refine W.lcmp C.1 C.2.1 dX5_leads_106 ?_
  refine lv_if_eq (tgt := 114) C.1 C.2.1 dX5_leads_107 (by decide) (fun c_3 => ?_) (fun c_3 => ?_)
  · have hE := br_p hE c_3
    refine lv_iconst (v := (0 : Int32)) C.1 C.2.1 dX5_leads_114 (by decide) ?_
    exact bX5_leads_115 C hkm hW hZ _ (lv_sub hl [2] rfl) hE
  · have hE := br_n hE c_3
    refine lv_iconst (v := (1 : Int32)) C.1 C.2.1 dX5_leads_110 (by decide) ?_
    refine lv_goto (tgt := 115) C.1 C.2.1 dX5_leads_111 (by decide) ?_
    exact bX5_leads_115 C hkm hW hZ _ (lv_sub hl [2] rfl) hE
set_option maxRecDepth 20000 in
theorem ct_X5_leads (l : Launch) (X : Ec) {h : Hp} {x0 : Nat} {x1 : Nat} {x2 : Int32} {x3 : Int32} {o : Int32 × Hp} (k_x0 : hK h x0 = 5) (k_x1 : hK h x1 = 3) (hE : sX5_leads h x0 x1 x2 x3 = some o) : MetI l yX5_leads cX5_leads 8 (some .boolean) 1 25 X [.ref x0, .ref x1, .int x2, .int x3] h o := by
  refine x_met (by decide) (Nat.le_of_ble_eq_true rfl) ?_
  intro p e s m below meth c ls C hl hW hZ
  have hl : lv_has ls 8 [(0, .ref x0), (1, .ref x1), (2, .int x2), (3, .int x3)] := hl
  have hkm : Km h h := Km.rf h
  refine lv_aload_n C.1 C.2.1 dX5_leads_0 rfl (lv_at hl 0 rfl) ?_
  obtain ⟨r_1, er_1, hE⟩ := cl_e hE
  refine gf_X5_26 C hW k_x0 er_1 dX5_leads_1 (fun k_r_1 => ?_)
  obtain ⟨r_2, er_2, hE⟩ := cl_e hE
  refine gf_X5_54 C hW k_r_1 er_2 dX5_leads_4 (fun k_r_2 => ?_)
  refine lv_iload_n C.1 C.2.1 dX5_leads_7 rfl (lv_at hl 2 rfl) ?_
  obtain ⟨g_3, hE⟩ := gd_e hE
  refine y_iald C hW k_r_2 g_3 dX5_leads_8 ?_
  refine lv_bipush (v := (6 : Int32)) C.1 C.2.1 dX5_leads_9 (by decide) ?_
  refine lv_ishr C.1 C.2.1 dX5_leads_11 ?_
  refine lv_bipush (v := (63 : Int32)) C.1 C.2.1 dX5_leads_12 (by decide) ?_
  refine lv_iand C.1 C.2.1 dX5_leads_14 ?_
  obtain ⟨v_4, ev_4, hE⟩ := nm_e2 hE
  refine x_nmI ev_4 ?_
  refine lv_istore (lv' := [(4, .int v_4), (0, .ref x0), (1, .ref x1), (2, .int x2), (3, .int x3)]) C.1 C.2.1 dX5_leads_15 hl (by decide) rfl (fun ls hl => ?_)
  refine lv_lconst (v := (1 : Int64)) C.1 C.2.1 dX5_leads_17 (by decide) ?_
  refine lv_aload_n C.1 C.2.1 dX5_leads_18 rfl (lv_at hl 1 rfl) ?_
  obtain ⟨r_5, er_5, hE⟩ := cl_e hE
  refine gf_X5_26 C hW k_x0 er_5 dX5_leads_19 (fun k_r_5 => ?_)
  obtain ⟨r_6, er_6, hE⟩ := cl_e hE
  refine gf_X5_54 C hW k_r_5 er_6 dX5_leads_22 (fun k_r_6 => ?_)
  refine lv_iload_n C.1 C.2.1 dX5_leads_25 rfl (lv_at hl 3 rfl) ?_
  obtain ⟨g_7, hE⟩ := gd_e hE
  refine y_iald C hW k_r_6 g_7 dX5_leads_26 ?_
  refine lv_bipush (v := (63 : Int32)) C.1 C.2.1 dX5_leads_27 (by decide) ?_
  refine lv_iand C.1 C.2.1 dX5_leads_29 ?_
  refine lv_lshl C.1 C.2.1 dX5_leads_30 rfl ?_
  obtain ⟨v_8, ev_8, hE⟩ := nm_e2 hE
  refine x_nmJ ev_8 ?_
  refine lv_lstore (lv' := [(5, .long v_8), (4, .int v_4), (0, .ref x0), (1, .ref x1), (2, .int x2), (3, .int x3)]) C.1 C.2.1 dX5_leads_31 hl (by decide) rfl (fun ls hl => ?_)
  refine lv_aload_n C.1 C.2.1 dX5_leads_33 rfl (lv_at hl 3 rfl) ?_
  obtain ⟨r_9, er_9, hE⟩ := cl_e hE
  refine gf_X5_33 C hW k_x1 er_9 dX5_leads_34 (fun k_r_9 => ?_)
  refine lv_iload_n C.1 C.2.1 dX5_leads_37 rfl (lv_at hl 5 rfl) ?_
  obtain ⟨g_10, hE⟩ := gd_e hE
  refine y_lald C hW k_r_9 g_10 dX5_leads_38 ?_
  refine lv_lload C.1 C.2.1 dX5_leads_39 (lv_at hl 0 rfl) ?_
  refine lv_land C.1 C.2.1 dX5_leads_41 ?_
  refine lv_lconst (v := (0 : Int64)) C.1 C.2.1 dX5_leads_42 (by decide) ?_
  refine W.lcmp C.1 C.2.1 dX5_leads_43 ?_
  refine lv_if_ne (tgt := 62) C.1 C.2.1 dX5_leads_44 (by decide) (fun c_11 => ?_) (fun c_11 => ?_)
  · have hE := br_n hE c_11
    exact bX5_leads_62 C hkm hW hZ _ (lv_sub hl [] rfl) hE
  · have hE := br_p hE c_11
    refine lv_aload_n C.1 C.2.1 dX5_leads_47 rfl (lv_at hl 2 rfl) ?_
    obtain ⟨r_12, er_12, hE⟩ := cl_e hE
    refine gf_X5_26 C hW k_x0 er_12 dX5_leads_48 (fun k_r_12 => ?_)
    refine lv_iload_n C.1 C.2.1 dX5_leads_51 rfl (lv_at hl 4 rfl) ?_
    refine lv_aload_n C.1 C.2.1 dX5_leads_52 rfl (lv_at hl 3 rfl) ?_
    obtain ⟨o_13, eo_13, hE⟩ := cl_e hE
    refine x_kJ (o := o_13) (z_runV (As := []) (rest := [.int x2, .ref r_12]) C (ct_X3_occupied l X k_x1 eo_13) cw_X5_138 hW hZ k_x1 (by decide) rfl rfl rfl hl.1 (Nat.le_of_ble_eq_true rfl) rfl dX5_leads_53 ⟨Nat.le_of_ble_eq_true rfl, Nat.le_of_ble_eq_true rfl⟩ ⟨Nat.le_refl _, Nat.le_refl _⟩) hZ (fun _ _ hW km hZ => ?_)
    replace hkm := hkm.tr km
    replace k_x0 := km.at k_x0 (by decide)
    replace k_x1 := km.at k_x1 (by decide)
    replace k_r_12 := km.at k_r_12 (by decide)
    obtain ⟨o_14, eo_14, hE⟩ := cl_e hE
    refine x_kI (o := o_14) (z_runV (As := [.int x2, .long o_13.1]) (rest := []) C (ct_X10_isOpen l X k_r_12 eo_14) cw_X5_146 hW hZ k_r_12 (by decide) rfl rfl rfl hl.1 (Nat.le_of_ble_eq_true rfl) rfl dX5_leads_56 ⟨Nat.le_of_ble_eq_true rfl, Nat.le_of_ble_eq_true rfl⟩ ⟨Nat.le_refl _, Nat.le_refl _⟩) hZ (fun _ _ hW km hZ => ?_)
    replace hkm := hkm.tr km
    replace k_x0 := km.at k_x0 (by decide)
    replace k_x1 := km.at k_x1 (by decide)
    refine lv_if_ne (tgt := 64) C.1 C.2.1 dX5_leads_59 (by decide) (fun c_15 => ?_) (fun c_15 => ?_)
    · have hE := br_n hE c_15
      refine lv_iload C.1 C.2.1 dX5_leads_64 (lv_at hl 1 rfl) ?_
      refine lv_bipush (v := (32 : Int32)) C.1 C.2.1 dX5_leads_66 (by decide) ?_
      refine lv_iand C.1 C.2.1 dX5_leads_68 ?_
      refine lv_if_eq (tgt := 94) C.1 C.2.1 dX5_leads_69 (by decide) (fun c_16 => ?_) (fun c_16 => ?_)
      · have hE := br_p hE c_16
        exact bX5_leads_94 C k_x1 hkm hW hZ _ (lv_sub hl [3, 5, 1, 0] rfl) hE
      · have hE := br_n hE c_16
        refine lv_iload_n C.1 C.2.1 dX5_leads_72 rfl (lv_at hl 5 rfl) ?_
        refine lv_aload_n C.1 C.2.1 dX5_leads_73 rfl (lv_at hl 3 rfl) ?_
        refine gf_X5_78 C hW k_x1 dX5_leads_74 ?_
        refine lv_icmp_ne (tgt := 94) C.1 C.2.1 dX5_leads_77 (by decide) (fun c_17 => ?_) (fun c_17 => ?_)
        · have hE := br_n hE c_17
          exact bX5_leads_94 C k_x1 hkm hW hZ _ (lv_sub hl [3, 5, 1, 0] rfl) hE
        · have hE := br_p hE c_17
          refine lv_aload_n C.1 C.2.1 dX5_leads_80 rfl (lv_at hl 3 rfl) ?_
          refine gf_X5_150 C hW k_x1 dX5_leads_81 ?_
          refine lv_lload C.1 C.2.1 dX5_leads_84 (lv_at hl 0 rfl) ?_
          refine lv_land C.1 C.2.1 dX5_leads_86 ?_
          refine lv_lconst (v := (0 : Int64)) C.1 C.2.1 dX5_leads_87 (by decide) ?_
          refine W.lcmp C.1 C.2.1 dX5_leads_88 ?_
          refine lv_if_eq (tgt := 94) C.1 C.2.1 dX5_leads_89 (by decide) (fun c_18 => ?_) (fun c_18 => ?_)
          · have hE := br_p hE c_18
            exact bX5_leads_94 C k_x1 hkm hW hZ _ (lv_sub hl [3, 5, 1, 0] rfl) hE
          · have hE := br_n hE c_18
            refine lv_iconst (v := (1 : Int32)) C.1 C.2.1 dX5_leads_92 (by decide) ?_
            exact x_iret C rfl (by decide) hW hZ hkm hE dX5_leads_93
    · have hE := br_p hE c_15
      exact bX5_leads_62 C hkm hW hZ _ (lv_sub hl [] rfl) hE
