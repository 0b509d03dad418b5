theorem dX0_layOut_0 : decode cX0_layOut 0 = .ok (.aload_n 0, 1) := by decide +kernel
theorem dX0_layOut_1 : decode cX0_layOut 1 = .ok (.getfield 14, 3) := by decide +kernel
theorem dX0_layOut_4 : decode cX0_layOut 4 = .ok (.invokevirtual 165, 3) := by decide +kernel
theorem dX0_layOut_7 : decode cX0_layOut 7 = .ok (.lstore_n 3, 1) := by decide +kernel
theorem dX0_layOut_8 : decode cX0_layOut 8 = .ok (.iconst 0, 1) := by decide +kernel
theorem dX0_layOut_9 : decode cX0_layOut 9 = .ok (.istore 5, 2) := by decide +kernel
theorem dX0_layOut_11 : decode cX0_layOut 11 = .ok (.iload 5, 2) := by decide +kernel
theorem dX0_layOut_13 : decode cX0_layOut 13 = .ok (.bipush 64, 2) := by decide +kernel
theorem dX0_layOut_15 : decode cX0_layOut 15 = .ok (.if_icmp .ge 40, 3) := by decide +kernel
theorem dX0_layOut_18 : decode cX0_layOut 18 = .ok (.lload_n 3, 1) := by decide +kernel
theorem dX0_layOut_19 : decode cX0_layOut 19 = .ok (.lconst 0, 1) := by decide +kernel
theorem dX0_layOut_20 : decode cX0_layOut 20 = .ok (.lcmp, 1) := by decide +kernel
theorem dX0_layOut_21 : decode cX0_layOut 21 = .ok (.ifCond .eq 34, 3) := by decide +kernel
theorem dX0_layOut_24 : decode cX0_layOut 24 = .ok (.aload_n 0, 1) := by decide +kernel
theorem dX0_layOut_25 : decode cX0_layOut 25 = .ok (.getfield 14, 3) := by decide +kernel
theorem dX0_layOut_28 : decode cX0_layOut 28 = .ok (.lload_n 3, 1) := by decide +kernel
theorem dX0_layOut_29 : decode cX0_layOut 29 = .ok (.invokestatic 169, 3) := by decide +kernel
theorem dX0_layOut_32 : decode cX0_layOut 32 = .ok (.iconst (-1), 1) := by decide +kernel
theorem dX0_layOut_33 : decode cX0_layOut 33 = .ok (.aload_n 0, 1) := by decide +kernel
theorem dX0_layOut_34 : decode cX0_layOut 34 = .ok (.getfield 40, 3) := by decide +kernel
theorem dX0_layOut_37 : decode cX0_layOut 37 = .ok (.getfield 67, 3) := by decide +kernel
theorem dX0_layOut_40 : decode cX0_layOut 40 = .ok (.invokevirtual 173, 3) := by decide +kernel
theorem dX0_layOut_43 : decode cX0_layOut 43 = .ok (.lload_n 3, 1) := by decide +kernel
theorem dX0_layOut_44 : decode cX0_layOut 44 = .ok (.lload_n 3, 1) := by decide +kernel
theorem dX0_layOut_45 : decode cX0_layOut 45 = .ok (.lconst 1, 1) := by decide +kernel
theorem dX0_layOut_46 : decode cX0_layOut 46 = .ok (.lsub, 1) := by decide +kernel
theorem dX0_layOut_47 : decode cX0_layOut 47 = .ok (.land, 1) := by decide +kernel
theorem dX0_layOut_48 : decode cX0_layOut 48 = .ok (.lstore_n 3, 1) := by decide +kernel
theorem dX0_layOut_49 : decode cX0_layOut 49 = .ok (.iinc 5 1, 3) := by decide +kernel
theorem dX0_layOut_52 : decode cX0_layOut 52 = .ok (.goto (-41), 3) := by decide +kernel
theorem dX0_layOut_55 : decode cX0_layOut 55 = .ok (.iload_n 1, 1) := by decide +kernel
theorem dX0_layOut_56 : decode cX0_layOut 56 = .ok (.invokestatic 142, 3) := by decide +kernel
theorem dX0_layOut_59 : decode cX0_layOut 59 = .ok (.istore 5, 2) := by decide +kernel
theorem dX0_layOut_61 : decode cX0_layOut 61 = .ok (.aload_n 0, 1) := by decide +kernel
theorem dX0_layOut_62 : decode cX0_layOut 62 = .ok (.getfield 40, 3) := by decide +kernel
theorem dX0_layOut_65 : decode cX0_layOut 65 = .ok (.getfield 125, 3) := by decide +kernel
theorem dX0_layOut_68 : decode cX0_layOut 68 = .ok (.istore 6, 2) := by decide +kernel
theorem dX0_layOut_70 : decode cX0_layOut 70 = .ok (.iload_n 2, 1) := by decide +kernel
theorem dX0_layOut_71 : decode cX0_layOut 71 = .ok (.istore 7, 2) := by decide +kernel
theorem dX0_layOut_73 : decode cX0_layOut 73 = .ok (.iconst (-1), 1) := by decide +kernel
theorem dX0_layOut_74 : decode cX0_layOut 74 = .ok (.istore 8, 2) := by decide +kernel
theorem dX0_layOut_76 : decode cX0_layOut 76 = .ok (.iconst 0, 1) := by decide +kernel
theorem dX0_layOut_77 : decode cX0_layOut 77 = .ok (.istore 9, 2) := by decide +kernel
theorem dX0_layOut_79 : decode cX0_layOut 79 = .ok (.iload 9, 2) := by decide +kernel
theorem dX0_layOut_81 : decode cX0_layOut 81 = .ok (.iload 5, 2) := by decide +kernel
theorem dX0_layOut_83 : decode cX0_layOut 83 = .ok (.if_icmp .ge 157, 3) := by decide +kernel
theorem dX0_layOut_86 : decode cX0_layOut 86 = .ok (.iload 6, 2) := by decide +kernel
theorem dX0_layOut_88 : decode cX0_layOut 88 = .ok (.ifCond .le 152, 3) := by decide +kernel
theorem dX0_layOut_91 : decode cX0_layOut 91 = .ok (.iload 7, 2) := by decide +kernel
theorem dX0_layOut_93 : decode cX0_layOut 93 = .ok (.iload 6, 2) := by decide +kernel
theorem dX0_layOut_95 : decode cX0_layOut 95 = .ok (.irem, 1) := by decide +kernel
theorem dX0_layOut_96 : decode cX0_layOut 96 = .ok (.istore 10, 2) := by decide +kernel
theorem dX0_layOut_98 : decode cX0_layOut 98 = .ok (.iload 7, 2) := by decide +kernel
theorem dX0_layOut_100 : decode cX0_layOut 100 = .ok (.iload 6, 2) := by decide +kernel
theorem dX0_layOut_102 : decode cX0_layOut 102 = .ok (.idiv, 1) := by decide +kernel
theorem dX0_layOut_103 : decode cX0_layOut 103 = .ok (.istore 7, 2) := by decide +kernel
theorem dX0_layOut_105 : decode cX0_layOut 105 = .ok (.iload_n 1, 1) := by decide +kernel
theorem dX0_layOut_106 : decode cX0_layOut 106 = .ok (.iload 9, 2) := by decide +kernel
theorem dX0_layOut_108 : decode cX0_layOut 108 = .ok (.invokestatic 122, 3) := by decide +kernel
theorem dX0_layOut_111 : decode cX0_layOut 111 = .ok (.istore 11, 2) := by decide +kernel
theorem dX0_layOut_113 : decode cX0_layOut 113 = .ok (.iload 8, 2) := by decide +kernel
theorem dX0_layOut_115 : decode cX0_layOut 115 = .ok (.bipush 6, 2) := by decide +kernel
theorem dX0_layOut_117 : decode cX0_layOut 117 = .ok (.ishr, 1) := by decide +kernel
theorem dX0_layOut_118 : decode cX0_layOut 118 = .ok (.iload 11, 2) := by decide +kernel
theorem dX0_layOut_120 : decode cX0_layOut 120 = .ok (.if_icmp .ne 20, 3) := by decide +kernel
theorem dX0_layOut_123 : decode cX0_layOut 123 = .ok (.iload 8, 2) := by decide +kernel
theorem dX0_layOut_125 : decode cX0_layOut 125 = .ok (.iload 11, 2) := by decide +kernel
theorem dX0_layOut_127 : decode cX0_layOut 127 = .ok (.bipush 6, 2) := by decide +kernel
theorem dX0_layOut_129 : decode cX0_layOut 129 = .ok (.ishl, 1) := by decide +kernel
theorem dX0_layOut_130 : decode cX0_layOut 130 = .ok (.iload 10, 2) := by decide +kernel
theorem dX0_layOut_132 : decode cX0_layOut 132 = .ok (.ior, 1) := by decide +kernel
theorem dX0_layOut_133 : decode cX0_layOut 133 = .ok (.if_icmp .le 7, 3) := by decide +kernel
theorem dX0_layOut_136 : decode cX0_layOut 136 = .ok (.iconst 1, 1) := by decide +kernel
theorem dX0_layOut_137 : decode cX0_layOut 137 = .ok (.goto 4, 3) := by decide +kernel
theorem dX0_layOut_140 : decode cX0_layOut 140 = .ok (.iconst 0, 1) := by decide +kernel
theorem dX0_layOut_141 : decode cX0_layOut 141 = .ok (.istore 12, 2) := by decide +kernel
theorem dX0_layOut_143 : decode cX0_layOut 143 = .ok (.aload_n 0, 1) := by decide +kernel
theorem dX0_layOut_144 : decode cX0_layOut 144 = .ok (.getfield 40, 3) := by decide +kernel
theorem dX0_layOut_147 : decode cX0_layOut 147 = .ok (.iload 11, 2) := by decide +kernel
theorem dX0_layOut_149 : decode cX0_layOut 149 = .ok (.iconst 1, 1) := by decide +kernel
theorem dX0_layOut_150 : decode cX0_layOut 150 = .ok (.ishr, 1) := by decide +kernel
theorem dX0_layOut_151 : decode cX0_layOut 151 = .ok (.invokevirtual 177, 3) := by decide +kernel
theorem dX0_layOut_154 : decode cX0_layOut 154 = .ok (.ifCond .eq 23, 3) := by decide +kernel
theorem dX0_layOut_157 : decode cX0_layOut 157 = .ok (.aload_n 0, 1) := by decide +kernel
theorem dX0_layOut_158 : decode cX0_layOut 158 = .ok (.getfield 40, 3) := by decide +kernel
theorem dX0_layOut_161 : decode cX0_layOut 161 = .ok (.iload 10, 2) := by decide +kernel
theorem dX0_layOut_163 : decode cX0_layOut 163 = .ok (.iload 11, 2) := by decide +kernel
theorem dX0_layOut_165 : decode cX0_layOut 165 = .ok (.iconst 1, 1) := by decide +kernel
theorem dX0_layOut_166 : decode cX0_layOut 166 = .ok (.iand, 1) := by decide +kernel
theorem dX0_layOut_167 : decode cX0_layOut 167 = .ok (.invokevirtual 181, 3) := by decide +kernel
theorem dX0_layOut_170 : decode cX0_layOut 170 = .ok (.ifCond .eq 7, 3) := by decide +kernel
theorem dX0_layOut_173 : decode cX0_layOut 173 = .ok (.iconst 1, 1) := by decide +kernel
theorem dX0_layOut_174 : decode cX0_layOut 174 = .ok (.goto 4, 3) := by decide +kernel
theorem dX0_layOut_177 : decode cX0_layOut 177 = .ok (.iconst 0, 1) := by decide +kernel
theorem dX0_layOut_178 : decode cX0_layOut 178 = .ok (.istore 13, 2) := by decide +kernel
theorem dX0_layOut_180 : decode cX0_layOut 180 = .ok (.iload 12, 2) := by decide +kernel
theorem dX0_layOut_182 : decode cX0_layOut 182 = .ok (.ifCond .ne 22, 3) := by decide +kernel
theorem dX0_layOut_185 : decode cX0_layOut 185 = .ok (.iload 13, 2) := by decide +kernel
theorem dX0_layOut_187 : decode cX0_layOut 187 = .ok (.ifCond .ne 17, 3) := by decide +kernel
theorem dX0_layOut_190 : decode cX0_layOut 190 = .ok (.aload_n 0, 1) := by decide +kernel
theorem dX0_layOut_191 : decode cX0_layOut 191 = .ok (.getfield 14, 3) := by decide +kernel
theorem dX0_layOut_194 : decode cX0_layOut 194 = .ok (.getfield 184, 3) := by decide +kernel
theorem dX0_layOut_197 : decode cX0_layOut 197 = .ok (.iload 10, 2) := by decide +kernel
theorem dX0_layOut_199 : decode cX0_layOut 199 = .ok (.baload, 1) := by decide +kernel
theorem dX0_layOut_200 : decode cX0_layOut 200 = .ok (.iconst (-1), 1) := by decide +kernel
theorem dX0_layOut_201 : decode cX0_layOut 201 = .ok (.if_icmp .eq 5, 3) := by decide +kernel
theorem dX0_layOut_204 : decode cX0_layOut 204 = .ok (.iconst 0, 1) := by decide +kernel
theorem dX0_layOut_205 : decode cX0_layOut 205 = .ok (.ireturn, 1) := by decide +kernel
theorem dX0_layOut_206 : decode cX0_layOut 206 = .ok (.iload 11, 2) := by decide +kernel
theorem dX0_layOut_208 : decode cX0_layOut 208 = .ok (.bipush 6, 2) := by decide +kernel
theorem dX0_layOut_210 : decode cX0_layOut 210 = .ok (.ishl, 1) := by decide +kernel
theorem dX0_layOut_211 : decode cX0_layOut 211 = .ok (.iload 10, 2) := by decide +kernel
theorem dX0_layOut_213 : decode cX0_layOut 213 = .ok (.ior, 1) := by decide +kernel
theorem dX0_layOut_214 : decode cX0_layOut 214 = .ok (.istore 8, 2) := by decide +kernel
theorem dX0_layOut_216 : decode cX0_layOut 216 = .ok (.aload_n 0, 1) := by decide +kernel
theorem dX0_layOut_217 : decode cX0_layOut 217 = .ok (.getfield 14, 3) := by decide +kernel
theorem dX0_layOut_220 : decode cX0_layOut 220 = .ok (.iload 10, 2) := by decide +kernel
theorem dX0_layOut_222 : decode cX0_layOut 222 = .ok (.iload 11, 2) := by decide +kernel
theorem dX0_layOut_224 : decode cX0_layOut 224 = .ok (.aload_n 0, 1) := by decide +kernel
theorem dX0_layOut_225 : decode cX0_layOut 225 = .ok (.getfield 40, 3) := by decide +kernel
theorem dX0_layOut_228 : decode cX0_layOut 228 = .ok (.getfield 67, 3) := by decide +kernel
theorem dX0_layOut_231 : decode cX0_layOut 231 = .ok (.invokevirtual 173, 3) := by decide +kernel
theorem dX0_layOut_234 : decode cX0_layOut 234 = .ok (.iinc 9 1, 3) := by decide +kernel
theorem dX0_layOut_237 : decode cX0_layOut 237 = .ok (.goto (-158), 3) := by decide +kernel
theorem dX0_layOut_240 : decode cX0_layOut 240 = .ok (.iconst 1, 1) := by decide +kernel
theorem dX0_layOut_241 : decode cX0_layOut 241 = .ok (.ireturn, 1) := by decide +kernel
def sX0_layOut_240 (F : Nat) (h : Hp) : Option (Int32 × Hp) := some ((1 : Int32), h)
def sX0_layOut_204 (F : Nat) (h : Hp) : Option (Int32 × Hp) := some ((0 : Int32), h)
def sX0_layOut_178 (F : Nat) (k_79 : Hp → Nat → Int32 → Int32 → Int32 → Int32 → Int32 → Int32 → Option (Int32 × Hp)) (h : Hp) (x0 : Nat) (x1 : Int32) (x5 : Int32) (x6 : Int32) (x7 : Int32) (x9 : Int32) (x10 : Int32) (x11 : Int32) (x12 : Int32) (t0 : Int32) : Option (Int32 × Hp) := br (x12 = 0) (br (t0 = 0) (cl (hR h x0 3) fun r_3 => cl (hR h r_3 0) fun r_4 => gd (inB x10 (hN h r_4)) <| br ((hI h r_4 x10.toNatClampNeg) = (-1 : Int32)) (nm ((x11 <<< ((6 : Int32) &&& 31)) ||| x10) fun v_7 => cl (hR h x0 3) fun r_8 => cl (hR h x0 0) fun r_9 => cl (sX3_put h r_8 x10 x11 (hI h r_9 4)) fun o_10 => nm (x9 + (1 : Int32)) fun v_11 => k_79 o_10 x0 x1 x5 x6 x7 v_7 v_11) (sX0_layOut_204 F h )) (sX0_layOut_204 F h )) (sX0_layOut_204 F h )
def sX0_layOut_177 (F : Nat) (k_79 : Hp → Nat → Int32 → Int32 → Int32 → Int32 → Int32 → Int32 → Option (Int32 × Hp)) (h : Hp) (x0 : Nat) (x1 : Int32) (x5 : Int32) (x6 : Int32) (x7 : Int32) (x9 : Int32) (x10 : Int32) (x11 : Int32) (x12 : Int32) : Option (Int32 × Hp) := sX0_layOut_178 F k_79 h x0 x1 x5 x6 x7 x9 x10 x11 x12 (0 : Int32)
def sX0_layOut_141 (F : Nat) (k_79 : Hp → Nat → Int32 → Int32 → Int32 → Int32 → Int32 → Int32 → Option (Int32 × Hp)) (h : Hp) (x0 : Nat) (x1 : Int32) (x5 : Int32) (x6 : Int32) (x7 : Int32) (x9 : Int32) (x10 : Int32) (x11 : Int32) (t0 : Int32) : Option (Int32 × Hp) := cl (hR h x0 0) fun r_1 => cl (sX1_becomesOthers h r_1 (x11 >>> ((1 : Int32) &&& 31))) fun o_2 => br (o_2.1 = 0) (sX0_layOut_177 F k_79 o_2.2 x0 x1 x5 x6 x7 x9 x10 x11 t0) (cl (hR o_2.2 x0 0) fun r_4 => cl (sX1_isLast o_2.2 r_4 x10 (x11 &&& (1 : Int32))) fun o_5 => br (o_5.1 = 0) (sX0_layOut_177 F k_79 o_5.2 x0 x1 x5 x6 x7 x9 x10 x11 t0) (sX0_layOut_178 F k_79 o_5.2 x0 x1 x5 x6 x7 x9 x10 x11 t0 (1 : Int32)))
def sX0_layOut_140 (F : Nat) (k_79 : Hp → Nat → Int32 → Int32 → Int32 → Int32 → Int32 → Int32 → Option (Int32 × Hp)) (h : Hp) (x0 : Nat) (x1 : Int32) (x5 : Int32) (x6 : Int32) (x7 : Int32) (x9 : Int32) (x10 : Int32) (x11 : Int32) : Option (Int32 × Hp) := sX0_layOut_141 F k_79 h x0 x1 x5 x6 x7 x9 x10 x11 (0 : Int32)
def sX0_layOut_79 (F : Nat) : Nat → Hp → Nat → Int32 → Int32 → Int32 → Int32 → Int32 → Int32 → Option (Int32 × Hp)
  | 0, _, _, _, _, _, _, _, _ => none
  | f + 1, h, x0, x1, x5, x6, x7, x8, x9 => br (x5 ≤ x9) (sX0_layOut_240 F h ) (br (x6 ≤ 0) (sX0_layOut_240 F h ) (gd (¬ x6 = 0) <| nm (x7 - x7 / x6 * x6) fun v_4 => gd (¬ x6 = 0) <| nm (x7 / x6) fun v_6 => cl (sX0_codeIn h x1 x9) fun o_7 => br ((x8 >>> ((6 : Int32) &&& 31)) = o_7.1) (br (x8 ≤ ((o_7.1 <<< ((6 : Int32) &&& 31)) ||| v_4)) (sX0_layOut_140 F (sX0_layOut_79 F f) o_7.2 x0 x1 x5 x6 v_6 x9 v_4 o_7.1) (sX0_layOut_141 F (sX0_layOut_79 F f) o_7.2 x0 x1 x5 x6 v_6 x9 v_4 o_7.1 (1 : Int32))) (sX0_layOut_140 F (sX0_layOut_79 F f) o_7.2 x0 x1 x5 x6 v_6 x9 v_4 o_7.1)))
def sX0_layOut_55 (F : Nat) (h : Hp) (x0 : Nat) (x1 : Int32) (x2 : Int32) : Option (Int32 × Hp) := cl (sX0_sizeOf F h x1) fun o_1 => cl (hR o_1.2 x0 0) fun r_2 => nm (hI o_1.2 r_2 2) fun v_3 => sX0_layOut_79 F F o_1.2 x0 x1 o_1.1 v_3 x2 (-1 : Int32) (0 : Int32)
def sX0_layOut_11 (F : Nat) : Nat → Hp → Nat → Int32 → Int32 → Int64 → Int32 → Option (Int32 × Hp)
  | 0, _, _, _, _, _, _ => none
  | f + 1, h, x0, x1, x2, x3, x5 => br ((64 : Int32) ≤ x5) (sX0_layOut_55 F h x0 x1 x2) (br ((lg_cmp x3 (0 : Int64)) = 0) (sX0_layOut_55 F h x0 x1 x2) (cl (hR h x0 3) fun r_3 => cl (sX11_lowest h x3) fun o_4 => cl (hR o_4.2 x0 0) fun r_5 => cl (sX3_put o_4.2 r_3 o_4.1 (-1 : Int32) (hI o_4.2 r_5 4)) fun o_6 => nm (x3 &&& (x3 - (1 : Int64))) fun v_7 => nm (x5 + (1 : Int32)) fun v_8 => sX0_layOut_11 F f o_6 x0 x1 x2 v_7 v_8))
def sX0_layOut (F : Nat) (h : Hp) (x0 : Nat) (x1 : Int32) (x2 : Int32) : Option (Int32 × Hp) := cl (hR h x0 3) fun r_1 => cl (sX3_occupied h r_1) fun o_2 => sX0_layOut_11 F F o_2.2 x0 x1 x2 o_2.1 (0 : Int32)
set_option maxRecDepth 20000 in
theorem moX0_layOut_240 {o : Int32 × Hp} {F : Nat} {h : Hp} (hE : sX0_layOut_240 F h  = some o) : Le h o.2 := by
  first | exact le_some2 hE | exact le_some1 hE
set_option maxRecDepth 20000 in
theorem moX0_layOut_204 {o : Int32 × Hp} {F : Nat} {h : Hp} (hE : sX0_layOut_204 F h  = some o) : Le h o.2 := by
  first | exact le_some2 hE | exact le_some1 hE
set_option maxRecDepth 20000 in
theorem moX0_layOut_178 {o : Int32 × Hp} {k_79 : Hp → Nat → Int32 → Int32 → Int32 → Int32 → Int32 → Int32 → Option (Int32 × Hp)} {F : Nat} (mk_79 : ∀ (h : Hp) (x0 : Nat) (x1 : Int32) (x5 : Int32) (x6 : Int32) (x7 : Int32) (x8 : Int32) (x9 : Int32), k_79 h x0 x1 x5 x6 x7 x8 x9 = some o → Le h o.2) {h : Hp} {x0 : Nat} {x1 : Int32} {x5 : Int32} {x6 : Int32} {x7 : Int32} {x9 : Int32} {x10 : Int32} {x11 : Int32} {x12 : Int32} {t0 : Int32} (hE : sX0_layOut_178 F k_79 h x0 x1 x5 x6 x7 x9 x10 x11 x12 t0 = some o) : Le h o.2 := by
  rcases br_e hE with ⟨_, hE⟩ | ⟨_, hE⟩
  · rcases br_e hE with ⟨_, hE⟩ | ⟨_, hE⟩
    · obtain ⟨r_3, er_3, hE⟩ := cl_e hE
      obtain ⟨r_4, er_4, hE⟩ := cl_e hE
      obtain ⟨g_5, hE⟩ := gd_e hE
      rcases br_e hE with ⟨_, hE⟩ | ⟨_, hE⟩
      · obtain ⟨v_7, ev_7, hE⟩ := nm_e2 hE
        obtain ⟨r_8, er_8, hE⟩ := cl_e hE
        obtain ⟨r_9, er_9, hE⟩ := cl_e hE
        obtain ⟨o_10, eo_10, hE⟩ := cl_e hE
        refine (moX3_put eo_10).tr ?_
        obtain ⟨v_11, ev_11, hE⟩ := nm_e2 hE
        exact mk_79 _ _ _ _ _ _ _ _ hE
      · exact moX0_layOut_204 hE
    · exact moX0_layOut_204 hE
  · exact moX0_layOut_204 hE
set_option maxRecDepth 20000 in
theorem moX0_layOut_177 {o : Int32 × Hp} {k_79 : Hp → Nat → Int32 → Int32 → Int32 → Int32 → Int32 → Int32 → Option (Int32 × Hp)} {F : Nat} (mk_79 : ∀ (h : Hp) (x0 : Nat) (x1 : Int32) (x5 : Int32) (x6 : Int32) (x7 : Int32) (x8 : Int32) (x9 : Int32), k_79 h x0 x1 x5 x6 x7 x8 x9 = some o → Le h o.2) {h : Hp} {x0 : Nat} {x1 : Int32} {x5 : Int32} {x6 : Int32} {x7 : Int32} {x9 : Int32} {x10 : Int32} {x11 : Int32} {x12 : Int32} (hE : sX0_layOut_177 F k_79 h x0 x1 x5 x6 x7 x9 x10 x11 x12 = some o) : Le h o.2 := by
  exact moX0_layOut_178 mk_79 hE
set_option maxRecDepth 20000 in
theorem moX0_layOut_141 {o : Int32 × Hp} {k_79 : Hp → Nat → Int32 → Int32 → Int32 → Int32 → Int32 → Int32 → Option (Int32 × Hp)} {F : Nat} (mk_79 : ∀ (h : Hp) (x0 : Nat) (x1 : Int32) (x5 : Int32) (x6 : Int32) (x7 : Int32) (x8 : Int32) (x9 : Int32), k_79 h x0 x1 x5 x6 x7 x8 x9 = some o → Le h o.2) {h : Hp} {x0 : Nat} {x1 : Int32} {x5 : Int32} {x6 : Int32} {x7 : Int32} {x9 : Int32} {x10 : Int32} {x11 : Int32} {t0 : Int32} (hE : sX0_layOut_141 F k_79 h x0 x1 x5 x6 x7 x9 x10 x11 t0 = some o) : Le h o.2 := by
  obtain ⟨r_1, er_1, hE⟩ := cl_e hE
  obtain ⟨o_2, eo_2, hE⟩ := cl_e hE
  refine (moX1_becomesOthers eo_2).tr ?_
  rcases br_e hE with ⟨_, hE⟩ | ⟨_, hE⟩
  · exact moX0_layOut_177 mk_79 hE
  · obtain ⟨r_4, er_4, hE⟩ := cl_e hE
    obtain ⟨o_5, eo_5, hE⟩ := cl_e hE
    refine (moX1_isLast eo_5).tr ?_
    rcases br_e hE with ⟨_, hE⟩ | ⟨_, hE⟩
    · exact moX0_layOut_177 mk_79 hE
    · exact moX0_layOut_178 mk_79 hE
set_option maxRecDepth 20000 in
theorem moX0_layOut_140 {o : Int32 × Hp} {k_79 : Hp → Nat → Int32 → Int32 → Int32 → Int32 → Int32 → Int32 → Option (Int32 × Hp)} {F : Nat} (mk_79 : ∀ (h : Hp) (x0 : Nat) (x1 : Int32) (x5 : Int32) (x6 : Int32) (x7 : Int32) (x8 : Int32) (x9 : Int32), k_79 h x0 x1 x5 x6 x7 x8 x9 = some o → Le h o.2) {h : Hp} {x0 : Nat} {x1 : Int32} {x5 : Int32} {x6 : Int32} {x7 : Int32} {x9 : Int32} {x10 : Int32} {x11 : Int32} (hE : sX0_layOut_140 F k_79 h x0 x1 x5 x6 x7 x9 x10 x11 = some o) : Le h o.2 := by
  exact moX0_layOut_141 mk_79 hE
set_option maxRecDepth 20000 in
theorem moX0_layOut_79 {o : Int32 × Hp} {F : Nat} : ∀ (f : Nat) {h : Hp} {x0 : Nat} {x1 : Int32} {x5 : Int32} {x6 : Int32} {x7 : Int32} {x8 : Int32} {x9 : Int32}, sX0_layOut_79 F f h x0 x1 x5 x6 x7 x8 x9 = some o → Le h o.2 := by
  intro f
  induction f with
  | zero =>
    intro h x0 x1 x5 x6 x7 x8 x9 hE
    rw [sX0_layOut_79] at hE
    cases hE
  | succ f ih =>
    intro h x0 x1 x5 x6 x7 x8 x9 hE
    rw [sX0_layOut_79] at hE
    have mk_79 : ∀ (h : Hp) (x0 : Nat) (x1 : Int32) (x5 : Int32) (x6 : Int32) (x7 : Int32) (x8 : Int32) (x9 : Int32), sX0_layOut_79 F f h x0 x1 x5 x6 x7 x8 x9 = some o → Le h o.2 := fun h x0 x1 x5 x6 x7 x8 x9 hE => ih hE
    rcases br_e hE with ⟨_, hE⟩ | ⟨_, hE⟩
    · exact moX0_layOut_240 hE
    · rcases br_e hE with ⟨_, hE⟩ | ⟨_, hE⟩
      · exact moX0_layOut_240 hE
      · obtain ⟨g_3, hE⟩ := gd_e hE
        obtain ⟨v_4, ev_4, hE⟩ := nm_e2 hE
        obtain ⟨g_5, hE⟩ := gd_e hE
        obtain ⟨v_6, ev_6, hE⟩ := nm_e2 hE
        obtain ⟨o_7, eo_7, hE⟩ := cl_e hE
        refine (moX0_codeIn eo_7).tr ?_
        rcases br_e hE with ⟨_, hE⟩ | ⟨_, hE⟩
        · rcases br_e hE with ⟨_, hE⟩ | ⟨_, hE⟩
          · exact moX0_layOut_140 mk_79 hE
          · exact moX0_layOut_141 mk_79 hE
        · exact moX0_layOut_140 mk_79 hE
set_option maxRecDepth 20000 in
theorem moX0_layOut_55 {o : Int32 × Hp} {F : Nat} {h : Hp} {x0 : Nat} {x1 : Int32} {x2 : Int32} (hE : sX0_layOut_55 F h x0 x1 x2 = some o) : Le h o.2 := by
  obtain ⟨o_1, eo_1, hE⟩ := cl_e hE
  refine (moX0_sizeOf eo_1).tr ?_
  obtain ⟨r_2, er_2, hE⟩ := cl_e hE
  obtain ⟨v_3, ev_3, hE⟩ := nm_e2 hE
  exact moX0_layOut_79 _ hE
set_option maxRecDepth 20000 in
theorem moX0_layOut_11 {o : Int32 × Hp} {F : Nat} : ∀ (f : Nat) {h : Hp} {x0 : Nat} {x1 : Int32} {x2 : Int32} {x3 : Int64} {x5 : Int32}, sX0_layOut_11 F f h x0 x1 x2 x3 x5 = some o → Le h o.2 := by
  intro f
  induction f with
  | zero =>
    intro h x0 x1 x2 x3 x5 hE
    rw [sX0_layOut_11] at hE
    cases hE
  | succ f ih =>
    intro h x0 x1 x2 x3 x5 hE
    rw [sX0_layOut_11] at hE
    have mk_11 : ∀ (h : Hp) (x0 : Nat) (x1 : Int32) (x2 : Int32) (x3 : Int64) (x5 : Int32), sX0_layOut_11 F f h x0 x1 x2 x3 x5 = some o → Le h o.2 := fun h x0 x1 x2 x3 x5 hE => ih hE
    rcases br_e hE with ⟨_, hE⟩ | ⟨_, hE⟩
    · exact moX0_layOut_55 hE
    · rcases br_e hE with ⟨_, hE⟩ | ⟨_, hE⟩
      · exact moX0_layOut_55 hE
      · obtain ⟨r_3, er_3, hE⟩ := cl_e hE
        obtain ⟨o_4, eo_4, hE⟩ := cl_e hE
        refine (moX11_lowest eo_4).tr ?_
        obtain ⟨r_5, er_5, hE⟩ := cl_e hE
        obtain ⟨o_6, eo_6, hE⟩ := cl_e hE
        refine (moX3_put eo_6).tr ?_
        obtain ⟨v_7, ev_7, hE⟩ := nm_e2 hE
        obtain ⟨v_8, ev_8, hE⟩ := nm_e2 hE
        exact mk_11 _ _ _ _ _ _ hE
set_option maxRecDepth 20000 in
theorem moX0_layOut {o : Int32 × Hp} {F : Nat} {h : Hp} {x0 : Nat} {x1 : Int32} {x2 : Int32} (hE : sX0_layOut F h x0 x1 x2 = some o) : Le h o.2 := by
  obtain ⟨r_1, er_1, hE⟩ := cl_e hE
  obtain ⟨o_2, eo_2, hE⟩ := cl_e hE
  refine (moX3_occupied eo_2).tr ?_
  exact moX0_layOut_11 _ hE
set_option maxRecDepth 20000 in
theorem bX0_layOut_240 {p : Program} {l : Launch} {e : Env} {s : State} {m : MethodId} {args : Array Value} {below : List Frame} {meth : Method} {c : Code} {X : Ec} {h0 : Hp} {o : Int32 × Hp} {F : Nat} (C : Cx X p s m args meth c RX0 cX0_layOut 14 (some .boolean) "layOut") {h : Hp} {H : Heap} {locs : List Loc} (hkm : Km h0 h) (hW : Wx X h H) (hZ : va_S (aA (eB X)) s.heap H locs) (ls : Array Slot) (hl : lv_has ls 14 []) (hE : sX0_layOut_240 F h  = some o) : W p l e (rm 2 42) s m args below meth c H locs 0 0 (MQ below (QI X h0 o.1 o.2) args s 0 0 (aA (eB X))) (F0 m 240 ls []) := by
  refine lv_iconst (v := (1 : Int32)) C.1 C.2.1 dX0_layOut_240 (by decide) ?_
  exact x_iret C rfl (by decide) hW hZ hkm hE dX0_layOut_241
set_option maxRecDepth 20000 in
theorem bX0_layOut_204 {p : Program} {l : Launch} {e : Env} {s : State} {m : MethodId} {args : Array Value} {below : List Frame} {meth : Method} {c : Code} {X : Ec} {h0 : Hp} {o : Int32 × Hp} {F : Nat} (C : Cx X p s m args meth c RX0 cX0_layOut 14 (some .boolean) "layOut") {h : Hp} {H : Heap} {locs : List Loc} (hkm : Km h0 h) (hW : Wx X h H) (hZ : va_S (aA (eB X)) s.heap H locs) (ls : Array Slot) (hl : lv_has ls 14 []) (hE : sX0_layOut_204 F h  = some o) : W p l e (rm 2 42) s m args below meth c H locs 0 0 (MQ below (QI X h0 o.1 o.2) args s 0 0 (aA (eB X))) (F0 m 204 ls []) := by
  refine lv_iconst (v := (0 : Int32)) C.1 C.2.1 dX0_layOut_204 (by decide) ?_
  exact x_iret C rfl (by decide) hW hZ hkm hE dX0_layOut_205
set_option maxRecDepth 20000 in
theorem bX0_layOut_178 {p : Program} {l : Launch} {e : Env} {s : State} {m : MethodId} {args : Array Value} {below : List Frame} {meth : Method} {c : Code} {X : Ec} {h0 : Hp} {o : Int32 × Hp} {k_79 : Hp → Nat → Int32 → Int32 → Int32 → Int32 → Int32 → Int32 → Option (Int32 × Hp)} {F : Nat} (C : Cx X p s m args meth c RX0 cX0_layOut 14 (some .boolean) "layOut") (hk_79 : ∀ (h : Hp) (x0 : Nat) (x1 : Int32) (x5 : Int32) (x6 : Int32) (x7 : Int32) (x8 : Int32) (x9 : Int32) (H : Heap) (locs : List Loc), hK h x0 = 0 → Km h0 h → Wx X h H → va_S (aA (eB X)) s.heap H locs → ∀ (ls : Array Slot), lv_has ls 14 [(0, .ref x0), (1, .int x1), (5, .int x5), (6, .int x6), (7, .int x7), (8, .int x8), (9, .int x9)] → k_79 h x0 x1 x5 x6 x7 x8 x9 = some o → W p l e (rm 2 42) s m args below meth c H locs 0 0 (MQ below (QI X h0 o.1 o.2) args s 0 0 (aA (eB X))) (F0 m 79 ls [])) {h : Hp} {x0 : Nat} {x1 : Int32} {x5 : Int32} {x6 : Int32} {x7 : Int32} {x9 : Int32} {x10 : Int32} {x11 : Int32} {x12 : Int32} {t0 : Int32} {H : Heap} {locs : List Loc} (k_x0 : hK h x0 = 0) (hkm : Km h0 h) (hW : Wx X h H) (hZ : va_S (aA (eB X)) s.heap H locs) (ls : Array Slot) (hl : lv_has ls 14 [(0, .ref x0), (1, .int x1), (5, .int x5), (6, .int x6), (7, .int x7), (9, .int x9), (10, .int x10), (11, .int x11), (12, .int x12)]) (hE : sX0_layOut_178 F k_79 h x0 x1 x5 x6 x7 x9 x10 x11 x12 t0 = some o) : W p l e (rm 2 42) s m args below meth c H locs 0 0 (MQ below (QI X h0 o.1 o.2) args s 0 0 (aA (eB X))) (F0 m 178 ls [.int t0]) := by
  refine lv_istore (lv' := [(13, .int t0), (0, .ref x0), (1, .int x1), (5, .int x5), (6, .int x6), (7, .int x7), (9, .int x9), (10, .int x10), (11, .int x11), (12, .int x12)]) C.1 C.2.1 dX0_layOut_178 hl (by decide) rfl (fun ls hl => ?_)
  refine lv_iload C.1 C.2.1 dX0_layOut_180 (lv_at hl 9 rfl) ?_
  refine lv_if_ne (tgt := 204) C.1 C.2.1 dX0_layOut_182 (by decide) (fun c_1 => ?_) (fun c_1 => ?_)
  · have hE := br_n hE c_1
    exact bX0_layOut_204 C hkm hW hZ _ (lv_sub hl [] rfl) hE
  · have hE := br_p hE c_1
    refine lv_iload C.1 C.2.1 dX0_layOut_185 (lv_at hl 0 rfl) ?_
    refine lv_if_ne (tgt := 204) C.1 C.2.1 dX0_layOut_187 (by decide) (fun c_2 => ?_) (fun c_2 => ?_)
    · have hE := br_n hE c_2
      exact bX0_layOut_204 C hkm hW hZ _ (lv_sub hl [] rfl) hE
    · have hE := br_p hE c_2
      refine lv_aload_n C.1 C.2.1 dX0_layOut_190 rfl (lv_at hl 1 rfl) ?_
      obtain ⟨r_3, er_3, hE⟩ := cl_e hE
      refine gf_X0_14 C hW k_x0 er_3 dX0_layOut_191 (fun k_r_3 => ?_)
      obtain ⟨r_4, er_4, hE⟩ := cl_e hE
      refine gf_X0_184 C hW k_r_3 er_4 dX0_layOut_194 (fun k_r_4 => ?_)
      refine lv_iload C.1 C.2.1 dX0_layOut_197 (lv_at hl 7 rfl) ?_
      obtain ⟨g_5, hE⟩ := gd_e hE
      refine y_bald C hW k_r_4 g_5 dX0_layOut_199 ?_
      refine lv_iconst (v := (-1 : Int32)) C.1 C.2.1 dX0_layOut_200 (by decide) ?_
      refine lv_icmp_eq (tgt := 206) C.1 C.2.1 dX0_layOut_201 (by decide) (fun c_6 => ?_) (fun c_6 => ?_)
      · have hE := br_p hE c_6
        refine lv_iload C.1 C.2.1 dX0_layOut_206 (lv_at hl 8 rfl) ?_
        refine lv_bipush (v := (6 : Int32)) C.1 C.2.1 dX0_layOut_208 (by decide) ?_
        refine lv_ishl C.1 C.2.1 dX0_layOut_210 ?_
        refine lv_iload C.1 C.2.1 dX0_layOut_211 (lv_at hl 7 rfl) ?_
        refine lv_ior C.1 C.2.1 dX0_layOut_213 ?_
        obtain ⟨v_7, ev_7, hE⟩ := nm_e2 hE
        refine x_nmI ev_7 ?_
        refine lv_istore (lv' := [(8, .int v_7), (13, .int t0), (0, .ref x0), (1, .int x1), (5, .int x5), (6, .int x6), (7, .int x7), (9, .int x9), (10, .int x10), (11, .int x11), (12, .int x12)]) C.1 C.2.1 dX0_layOut_214 hl (by decide) rfl (fun ls hl => ?_)
        refine lv_aload_n C.1 C.2.1 dX0_layOut_216 rfl (lv_at hl 2 rfl) ?_
        obtain ⟨r_8, er_8, hE⟩ := cl_e hE
        refine gf_X0_14 C hW k_x0 er_8 dX0_layOut_217 (fun k_r_8 => ?_)
        refine lv_iload C.1 C.2.1 dX0_layOut_220 (lv_at hl 8 rfl) ?_
        refine lv_iload C.1 C.2.1 dX0_layOut_222 (lv_at hl 9 rfl) ?_
        refine lv_aload_n C.1 C.2.1 dX0_layOut_224 rfl (lv_at hl 2 rfl) ?_
        obtain ⟨r_9, er_9, hE⟩ := cl_e hE
        refine gf_X0_40 C hW k_x0 er_9 dX0_layOut_225 (fun k_r_9 => ?_)
        refine gf_X0_67 C hW k_r_9 dX0_layOut_228 ?_
        obtain ⟨o_10, eo_10, hE⟩ := cl_e hE
        refine x_kV (o := o_10) (z_runV (As := [.int x10, .int x11, .int (hI h r_9 4)]) (rest := []) C (ct_X3_put l X k_r_8 eo_10) cw_X0_173 hW hZ k_r_8 (by decide) rfl rfl rfl hl.1 (Nat.le_of_ble_eq_true rfl) rfl dX0_layOut_231 ⟨Nat.le_of_ble_eq_true rfl, Nat.le_of_ble_eq_true rfl⟩ ⟨Nat.le_refl _, Nat.le_refl _⟩) hZ (fun _ _ hW km hZ => ?_)
        replace hkm := hkm.tr km
        replace k_x0 := km.at k_x0 (by decide)
        obtain ⟨v_11, ev_11, hE⟩ := nm_e2 hE
        refine lv_iinc (v := v_11) (lv' := [(9, .int v_11), (8, .int v_7), (13, .int t0), (0, .ref x0), (1, .int x1), (5, .int x5), (6, .int x6), (7, .int x7), (10, .int x10), (11, .int x11), (12, .int x12)]) C.1 C.2.1 dX0_layOut_234 hl (k := 7) rfl (by rw [ev_11]; rfl) (by decide) rfl (fun ls hl => ?_)
        refine lv_goto (tgt := 79) C.1 C.2.1 dX0_layOut_237 (by decide) ?_
        exact hk_79 _ _ _ _ _ _ _ _ _ _ k_x0 hkm hW hZ _ (lv_sub hl [3, 4, 5, 6, 7, 1, 0] rfl) hE
      · have hE := br_n hE c_6
        exact bX0_layOut_204 C hkm hW hZ _ (lv_sub hl [] rfl) hE
set_option maxRecDepth 20000 in
theorem bX0_layOut_177 {p : Program} {l : Launch} {e : Env} {s : State} {m : MethodId} {args : Array Value} {below : List Frame} {meth : Method} {c : Code} {X : Ec} {h0 : Hp} {o : Int32 × Hp} {k_79 : Hp → Nat → Int32 → Int32 → Int32 → Int32 → Int32 → Int32 → Option (Int32 × Hp)} {F : Nat} (C : Cx X p s m args meth c RX0 cX0_layOut 14 (some .boolean) "layOut") (hk_79 : ∀ (h : Hp) (x0 : Nat) (x1 : Int32) (x5 : Int32) (x6 : Int32) (x7 : Int32) (x8 : Int32) (x9 : Int32) (H : Heap) (locs : List Loc), hK h x0 = 0 → Km h0 h → Wx X h H → va_S (aA (eB X)) s.heap H locs → ∀ (ls : Array Slot), lv_has ls 14 [(0, .ref x0), (1, .int x1), (5, .int x5), (6, .int x6), (7, .int x7), (8, .int x8), (9, .int x9)] → k_79 h x0 x1 x5 x6 x7 x8 x9 = some o → W p l e (rm 2 42) s m args below meth c H locs 0 0 (MQ below (QI X h0 o.1 o.2) args s 0 0 (aA (eB X))) (F0 m 79 ls [])) {h : Hp} {x0 : Nat} {x1 : Int32} {x5 : Int32} {x6 : Int32} {x7 : Int32} {x9 : Int32} {x10 : Int32} {x11 : Int32} {x12 : Int32} {H : Heap} {locs : List Loc} (k_x0 : hK h x0 = 0) (hkm : Km h0 h) (hW : Wx X h H) (hZ : va_S (aA (eB X)) s.heap H locs) (ls : Array Slot) (hl : lv_has ls 14 [(0, .ref x0), (1, .int x1), (5, .int x5), (6, .int x6), (7, .int x7), (9, .int x9), (10, .int x10), (11, .int x11), (12, .int x12)]) (hE : sX0_layOut_177 F k_79 h x0 x1 x5 x6 x7 x9 x10 x11 x12 = some o) : W p l e (rm 2 42) s m args below meth c H locs 0 0 (MQ below (QI X h0 o.1 o.2) args s 0 0 (aA (eB X))) (F0 m 177 ls []) := by
  refine lv_iconst (v := (0 : Int32)) C.1 C.2.1 dX0_layOut_177 (by decide) ?_
  exact bX0_layOut_178 C hk_79 k_x0 hkm hW hZ _ (lv_sub hl [0, 1, 2, 3, 4, 5, 6, 7, 8] rfl) hE
set_option maxRecDepth 20000 in
theorem bX0_layOut_141 {p : Program} {l : Launch} {e : Env} {s : State} {m : MethodId} {args : Array Value} {below : List Frame} {meth : Method} {c : Code} {X : Ec} {h0 : Hp} {o : Int32 × Hp} {k_79 : Hp → Nat → Int32 → Int32 → Int32 → Int32 → Int32 → Int32 → Option (Int32 × Hp)} {F : Nat} (C : Cx X p s m args meth c RX0 cX0_layOut 14 (some .boolean) "layOut") (hk_79 : ∀ (h : Hp) (x0 : Nat) (x1 : Int32) (x5 : Int32) (x6 : Int32) (x7 : Int32) (x8 : Int32) (x9 : Int32) (H : Heap) (locs : List Loc), hK h x0 = 0 → Km h0 h → Wx X h H → va_S (aA (eB X)) s.heap H locs → ∀ (ls : Array Slot), lv_has ls 14 [(0, .ref x0), (1, .int x1), (5, .int x5), (6, .int x6), (7, .int x7), (8, .int x8), (9, .int x9)] → k_79 h x0 x1 x5 x6 x7 x8 x9 = some o → W p l e (rm 2 42) s m args below meth c H locs 0 0 (MQ below (QI X h0 o.1 o.2) args s 0 0 (aA (eB X))) (F0 m 79 ls [])) {h : Hp} {x0 : Nat} {x1 : Int32} {x5 : Int32} {x6 : Int32} {x7 : Int32} {x9 : Int32} {x10 : Int32} {x11 : Int32} {t0 : Int32} {H : Heap} {locs : List Loc} (k_x0 : hK h x0 = 0) (hkm : Km h0 h) (hW : Wx X h H) (hZ : va_S (aA (eB X)) s.heap H locs) (ls : Array Slot) (hl : lv_has ls 14 [(0, .ref x0), (1, .int x1), (5, .int x5), (6, .int x6), (7, .int x7), (9, .int x9), (10, .int x10), (11, .int x11)]) (hE : sX0_layOut_141 F k_79 h x0 x1 x5 x6 x7 x9 x10 x11 t0 = some o) : W p l e (rm 2 42) s m args below meth c H locs 0 0 (MQ below (QI X h0 o.1 o.2) args s 0 0 (aA (eB X))) (F0 m 141 ls [.int t0]) := by
  refine lv_istore (lv' := [(12, .int t0), (0, .ref x0), (1, .int x1), (5, .int x5), (6, .int x6), (7, .int x7), (9, .int x9), (10, .int x10), (11, .int x11)]) C.1 C.2.1 dX0_layOut_141 hl (by decide) rfl (fun ls hl => ?_)
  refine lv_aload_n C.1 C.2.1 dX0_layOut_143 rfl (lv_at hl 1 rfl) ?_
  obtain ⟨r_1, er_1, hE⟩ := cl_e hE
  refine gf_X0_40 C hW k_x0 er_1 dX0_layOut_144 (fun k_r_1 => ?_)
  refine lv_iload C.1 C.2.1 dX0_layOut_147 (lv_at hl 8 rfl) ?_
  refine lv_iconst (v := (1 : Int32)) C.1 C.2.1 dX0_layOut_149 (by decide) ?_
  refine lv_ishr C.1 C.2.1 dX0_layOut_150 ?_
  obtain ⟨o_2, eo_2, hE⟩ := cl_e hE
  refine x_kI (o := o_2) (z_runV (As := [.int (x11 >>> ((1 : Int32) &&& 31))]) (rest := []) C (ct_X1_becomesOthers l X k_r_1 eo_2) cw_X0_177 hW hZ k_r_1 (by decide) rfl rfl rfl hl.1 (Nat.le_of_ble_eq_true rfl) rfl dX0_layOut_151 ⟨Nat.le_of_ble_eq_true rfl, Nat.le_of_ble_eq_true rfl⟩ ⟨Nat.le_refl _, Nat.le_refl _⟩) hZ (fun _ _ hW km hZ => ?_)
  replace hkm := hkm.tr km
  replace k_x0 := km.at k_x0 (by decide)
  refine lv_if_eq (tgt := 177) C.1 C.2.1 dX0_layOut_154 (by decide) (fun c_3 => ?_) (fun c_3 => ?_)
  · have hE := br_p hE c_3
    exact bX0_layOut_177 C hk_79 k_x0 hkm hW hZ _ (lv_sub hl [1, 2, 3, 4, 5, 6, 7, 8, 0] rfl) hE
  · have hE := br_n hE c_3
    refine lv_aload_n C.1 C.2.1 dX0_layOut_157 rfl (lv_at hl 1 rfl) ?_
    obtain ⟨r_4, er_4, hE⟩ := cl_e hE
    refine gf_X0_40 C hW k_x0 er_4 dX0_layOut_158 (fun k_r_4 => ?_)
    refine lv_iload C.1 C.2.1 dX0_layOut_161 (lv_at hl 7 rfl) ?_
    refine lv_iload C.1 C.2.1 dX0_layOut_163 (lv_at hl 8 rfl) ?_
    refine lv_iconst (v := (1 : Int32)) C.1 C.2.1 dX0_layOut_165 (by decide) ?_
    refine lv_iand C.1 C.2.1 dX0_layOut_166 ?_
    obtain ⟨o_5, eo_5, hE⟩ := cl_e hE
    refine x_kI (o := o_5) (z_runV (As := [.int x10, .int (x11 &&& (1 : Int32))]) (rest := []) C (ct_X1_isLast l X k_r_4 eo_5) cw_X0_181 hW hZ k_r_4 (by decide) rfl rfl rfl hl.1 (Nat.le_of_ble_eq_true rfl) rfl dX0_layOut_167 ⟨Nat.le_of_ble_eq_true rfl, Nat.le_of_ble_eq_true rfl⟩ ⟨Nat.le_refl _, Nat.le_refl _⟩) hZ (fun _ _ hW km hZ => ?_)
    replace hkm := hkm.tr km
    replace k_x0 := km.at k_x0 (by decide)
    refine lv_if_eq (tgt := 177) C.1 C.2.1 dX0_layOut_170 (by decide) (fun c_6 => ?_) (fun c_6 => ?_)
    · have hE := br_p hE c_6
      exact bX0_layOut_177 C hk_79 k_x0 hkm hW hZ _ (lv_sub hl [1, 2, 3, 4, 5, 6, 7, 8, 0] rfl) hE
    · have hE := br_n hE c_6
      refine lv_iconst (v := (1 : Int32)) C.1 C.2.1 dX0_layOut_173 (by decide) ?_
      refine lv_goto (tgt := 178) C.1 C.2.1 dX0_layOut_174 (by decide) ?_
      exact bX0_layOut_178 C hk_79 k_x0 hkm hW hZ _ (lv_sub hl [1, 2, 3, 4, 5, 6, 7, 8, 0] rfl) hE
set_option maxRecDepth 20000 in
theorem bX0_layOut_140 {p : Program} {l : Launch} {e : Env} {s : State} {m : MethodId} {args : Array Value} {below : List Frame} {meth : Method} {c : Code} {X : Ec} {h0 : Hp} {o : Int32 × Hp} {k_79 : Hp → Nat → Int32 → Int32 → Int32 → Int32 → Int32 → Int32 → Option (Int32 × Hp)} {F : Nat} (C : Cx X p s m args meth c RX0 cX0_layOut 14 (some .boolean) "layOut") (hk_79 : ∀ (h : Hp) (x0 : Nat) (x1 : Int32) (x5 : Int32) (x6 : Int32) (x7 : Int32) (x8 : Int32) (x9 : Int32) (H : Heap) (locs : List Loc), hK h x0 = 0 → Km h0 h → Wx X h H → va_S (aA (eB X)) s.heap H locs → ∀ (ls : Array Slot), lv_has ls 14 [(0, .ref x0), (1, .int x1), (5, .int x5), (6, .int x6), (7, .int x7), (8, .int x8), (9, .int x9)] → k_79 h x0 x1 x5 x6 x7 x8 x9 = some o → W p l e (rm 2 42) s m args below meth c H locs 0 0 (MQ below (QI X h0 o.1 o.2) args s 0 0 (aA (eB X))) (F0 m 79 ls [])) {h : Hp} {x0 : Nat} {x1 : Int32} {x5 : Int32} {x6 : Int32} {x7 : Int32} {x9 : Int32} {x10 : Int32} {x11 : Int32} {H : Heap} {locs : List Loc} (k_x0 : hK h x0 = 0) (hkm : Km h0 h) (hW : Wx X h H) (hZ : va_S (aA (eB X)) s.heap H locs) (ls : Array Slot) (hl : lv_has ls 14 [(0, .ref x0), (1, .int x1), (5, .int x5), (6, .int x6), (7, .int x7), (9, .int x9), (10, .int x10), (11, .int x11)]) (hE : sX0_layOut_140 F k_79 h x0 x1 x5 x6 x7 x9 x10 x11 = some o) : W p l e (rm 2 42) s m args below meth c H locs 0 0 (MQ below (QI X h0 o.1 o.2) args s 0 0 (aA (eB X))) (F0 m 140 ls []) := by
  refine lv_iconst (v := (0 : Int32)) C.1 C.2.1 dX0_layOut_140 (by decide) ?_
  exact bX0_layOut_141 C hk_79 k_x0 hkm hW hZ _ (lv_sub hl [0, 1, 2, 3, 4, 5, 6, 7] rfl) hE
set_option maxRecDepth 20000 in
theorem bX0_layOut_79 {p : Program} {l : Launch} {e : Env} {s : State} {m : MethodId} {args : Array Value} {below : List Frame} {meth : Method} {c : Code} {X : Ec} {h0 : Hp} {o : Int32 × Hp} {F : Nat} (C : Cx X p s m args meth c RX0 cX0_layOut 14 (some .boolean) "layOut") : ∀ (f : Nat) {h : Hp} {x0 : Nat} {x1 : Int32} {x5 : Int32} {x6 : Int32} {x7 : Int32} {x8 : Int32} {x9 : Int32} {H : Heap} {locs : List Loc} (k_x0 : hK h x0 = 0), Km h0 h → Wx X h H → va_S (aA (eB X)) s.heap H locs → ∀ (ls : Array Slot), lv_has ls 14 [(0, .ref x0), (1, .int x1), (5, .int x5), (6, .int x6), (7, .int x7), (8, .int x8), (9, .int x9)] → sX0_layOut_79 F f h x0 x1 x5 x6 x7 x8 x9 = some o → W p l e (rm 2 42) s m args below meth c H locs 0 0 (MQ below (QI X h0 o.1 o.2) args s 0 0 (aA (eB X))) (F0 m 79 ls []) := by
  intro f
  induction f with
  | zero =>
    intro h x0 x1 x5 x6 x7 x8 x9 H locs k_x0 hkm hW hZ ls hl hE
    rw [sX0_layOut_79] at hE
    cases hE
  | succ f ih =>
    intro h x0 x1 x5 x6 x7 x8 x9 H locs k_x0 hkm hW hZ ls hl hE
    rw [sX0_layOut_79] at hE
    have hk_79 : ∀ (h : Hp) (x0 : Nat) (x1 : Int32) (x5 : Int32) (x6 : Int32) (x7 : Int32) (x8 : Int32) (x9 : Int32) (H : Heap) (locs : List Loc), hK h x0 = 0 → Km h0 h → Wx X h H → va_S (aA (eB X)) s.heap H locs → ∀ (ls : Array Slot), lv_has ls 14 [(0, .ref x0), (1, .int x1), (5, .int x5), (6, .int x6), (7, .int x7), (8, .int x8), (9, .int x9)] → sX0_layOut_79 F f h x0 x1 x5 x6 x7 x8 x9 = some o → W p l e (rm 2 42) s m args below meth c H locs 0 0 (MQ below (QI X h0 o.1 o.2) args s 0 0 (aA (eB X))) (F0 m 79 ls []) := fun h x0 x1 x5 x6 x7 x8 x9 H locs k_x0 a b c ls hl hE => ih k_x0 a b c ls hl hE
    refine lv_iload C.1 C.2.1 dX0_layOut_79 (lv_at hl 6 rfl) ?_
    refine lv_iload C.1 C.2.1 dX0_layOut_81 (lv_at hl 2 rfl) ?_
    refine lv_icmp_ge (tgt := 240) C.1 C.2.1 dX0_layOut_83 (by decide) (fun c_1 => ?_) (fun c_1 => ?_)
    · have hE := br_p hE c_1
      exact bX0_layOut_240 C hkm hW hZ _ (lv_sub hl [] rfl) hE
    · have hE := br_n hE c_1
      refine lv_iload C.1 C.2.1 dX0_layOut_86 (lv_at hl 3 rfl) ?_
      refine lv_if_le (tgt := 240) C.1 C.2.1 dX0_layOut_88 (by decide) (fun c_2 => ?_) (fun c_2 => ?_)
      · have hE := br_p hE c_2
        exact bX0_layOut_240 C hkm hW hZ _ (lv_sub hl [] rfl) hE
      · have hE := br_n hE c_2
        refine lv_iload C.1 C.2.1 dX0_layOut_91 (lv_at hl 4 rfl) ?_
        refine lv_iload C.1 C.2.1 dX0_layOut_93 (lv_at hl 3 rfl) ?_
        obtain ⟨g_3, hE⟩ := gd_e hE
        refine lv_irem C.1 C.2.1 dX0_layOut_95 g_3 ?_
        obtain ⟨v_4, ev_4, hE⟩ := nm_e2 hE
        refine x_nmI ev_4 ?_
        refine lv_istore (lv' := [(10, .int v_4), (0, .ref x0), (1, .int x1), (5, .int x5), (6, .int x6), (7, .int x7), (8, .int x8), (9, .int x9)]) C.1 C.2.1 dX0_layOut_96 hl (by decide) rfl (fun ls hl => ?_)
        refine lv_iload C.1 C.2.1 dX0_layOut_98 (lv_at hl 5 rfl) ?_
        refine lv_iload C.1 C.2.1 dX0_layOut_100 (lv_at hl 4 rfl) ?_
        obtain ⟨g_5, hE⟩ := gd_e hE
        refine lv_idiv C.1 C.2.1 dX0_layOut_102 g_5 ?_
        obtain ⟨v_6, ev_6, hE⟩ := nm_e2 hE
        refine x_nmI ev_6 ?_
        refine lv_istore (lv' := [(7, .int v_6), (10, .int v_4), (0, .ref x0), (1, .int x1), (5, .int x5), (6, .int x6), (8, .int x8), (9, .int x9)]) C.1 C.2.1 dX0_layOut_103 hl (by decide) rfl (fun ls hl => ?_)
        refine lv_iload_n C.1 C.2.1 dX0_layOut_105 rfl (lv_at hl 3 rfl) ?_
        refine lv_iload C.1 C.2.1 dX0_layOut_106 (lv_at hl 7 rfl) ?_
        obtain ⟨o_7, eo_7, hE⟩ := cl_e hE
        refine x_kI (o := o_7) (z_runS (As := [.int x1, .int x9]) (rest := []) C (ct_X0_codeIn l X eo_7) cw_X0_122 hW hZ rfl hl.1 (Nat.le_of_ble_eq_true rfl) rfl dX0_layOut_108 ⟨Nat.le_of_ble_eq_true rfl, Nat.le_of_ble_eq_true rfl⟩ ⟨Nat.le_refl _, Nat.le_refl _⟩) hZ (fun _ _ hW km hZ => ?_)
        replace hkm := hkm.tr km
        replace k_x0 := km.at k_x0 (by decide)
        refine lv_istore (lv' := [(11, .int o_7.1), (7, .int v_6), (10, .int v_4), (0, .ref x0), (1, .int x1), (5, .int x5), (6, .int x6), (8, .int x8), (9, .int x9)]) C.1 C.2.1 dX0_layOut_111 hl (by decide) rfl (fun ls hl => ?_)
        refine lv_iload C.1 C.2.1 dX0_layOut_113 (lv_at hl 7 rfl) ?_
        refine lv_bipush (v := (6 : Int32)) C.1 C.2.1 dX0_layOut_115 (by decide) ?_
        refine lv_ishr C.1 C.2.1 dX0_layOut_117 ?_
        refine lv_iload C.1 C.2.1 dX0_layOut_118 (lv_at hl 0 rfl) ?_
        refine lv_icmp_ne (tgt := 140) C.1 C.2.1 dX0_layOut_120 (by decide) (fun c_8 => ?_) (fun c_8 => ?_)
        · have hE := br_n hE c_8
          exact bX0_layOut_140 C hk_79 k_x0 hkm hW hZ _ (lv_sub hl [3, 4, 5, 6, 1, 8, 2, 0] rfl) hE
        · have hE := br_p hE c_8
          refine lv_iload C.1 C.2.1 dX0_layOut_123 (lv_at hl 7 rfl) ?_
          refine lv_iload C.1 C.2.1 dX0_layOut_125 (lv_at hl 0 rfl) ?_
          refine lv_bipush (v := (6 : Int32)) C.1 C.2.1 dX0_layOut_127 (by decide) ?_
          refine lv_ishl C.1 C.2.1 dX0_layOut_129 ?_
          refine lv_iload C.1 C.2.1 dX0_layOut_130 (lv_at hl 2 rfl) ?_
          refine lv_ior C.1 C.2.1 dX0_layOut_132 ?_
          refine lv_icmp_le (tgt := 140) C.1 C.2.1 dX0_layOut_133 (by decide) (fun c_9 => ?_) (fun c_9 => ?_)
          · have hE := br_p hE c_9
            exact bX0_layOut_140 C hk_79 k_x0 hkm hW hZ _ (lv_sub hl [3, 4, 5, 6, 1, 8, 2, 0] rfl) hE
          · have hE := br_n hE c_9
            refine lv_iconst (v := (1 : Int32)) C.1 C.2.1 dX0_layOut_136 (by decide) ?_
            refine lv_goto (tgt := 141) C.1 C.2.1 dX0_layOut_137 (by decide) ?_
            exact bX0_layOut_141 C hk_79 k_x0 hkm hW hZ _ (lv_sub hl [3, 4, 5, 6, 1, 8, 2, 0] rfl) hE
set_option maxRecDepth 20000 in
theorem bX0_layOut_55 {p : Program} {l : Launch} {e : Env} {s : State} {m : MethodId} {args : Array Value} {below : List Frame} {meth : Method} {c : Code} {X : Ec} {h0 : Hp} {o : Int32 × Hp} {F : Nat} (C : Cx X p s m args meth c RX0 cX0_layOut 14 (some .boolean) "layOut") {h : Hp} {x0 : Nat} {x1 : Int32} {x2 : Int32} {H : Heap} {locs : List Loc} (k_x0 : hK h x0 = 0) (hkm : Km h0 h) (hW : Wx X h H) (hZ : va_S (aA (eB X)) s.heap H locs) (ls : Array Slot) (hl : lv_has ls 14 [(0, .ref x0), (1, .int x1), (2, .int x2)]) (hE : sX0_layOut_55 F h x0 x1 x2 = some o) : W p l e (rm 2 42) s m args below meth c H locs 0 0 (MQ below (QI X h0 o.1 o.2) args s 0 0 (aA (eB X))) (F0 m 55 ls []) := by
  refine lv_iload_n C.1 C.2.1 dX0_layOut_55 rfl (lv_at hl 1 rfl) ?_
  obtain ⟨o_1, eo_1, hE⟩ := cl_e hE
  refine x_kI (o := o_1) (z_runS (As := [.int x1]) (rest := []) C (ct_X0_sizeOf l X F eo_1) cw_X0_142 hW hZ rfl hl.1 (Nat.le_of_ble_eq_true rfl) rfl dX0_layOut_56 ⟨Nat.le_of_ble_eq_true rfl, Nat.le_of_ble_eq_true rfl⟩ ⟨Nat.le_refl _, Nat.le_refl _⟩) hZ (fun _ _ hW km hZ => ?_)
  replace hkm := hkm.tr km
  replace k_x0 := km.at k_x0 (by decide)
  refine lv_istore (lv' := [(5, .int o_1.1), (0, .ref x0), (1, .int x1), (2, .int x2)]) C.1 C.2.1 dX0_layOut_59 hl (by decide) rfl (fun ls hl => ?_)
  refine lv_aload_n C.1 C.2.1 dX0_layOut_61 rfl (lv_at hl 1 rfl) ?_
  obtain ⟨r_2, er_2, hE⟩ := cl_e hE
  refine gf_X0_40 C hW k_x0 er_2 dX0_layOut_62 (fun k_r_2 => ?_)
  refine gf_X0_125 C hW k_r_2 dX0_layOut_65 ?_
  obtain ⟨v_3, ev_3, hE⟩ := nm_e2 hE
  refine x_nmI ev_3 ?_
  refine lv_istore (lv' := [(6, .int v_3), (5, .int o_1.1), (0, .ref x0), (1, .int x1), (2, .int x2)]) C.1 C.2.1 dX0_layOut_68 hl (by decide) rfl (fun ls hl => ?_)
  refine lv_iload_n C.1 C.2.1 dX0_layOut_70 rfl (lv_at hl 4 rfl) ?_
  refine lv_istore (lv' := [(7, .int x2), (6, .int v_3), (5, .int o_1.1), (0, .ref x0), (1, .int x1), (2, .int x2)]) C.1 C.2.1 dX0_layOut_71 hl (by decide) rfl (fun ls hl => ?_)
  refine lv_iconst (v := (-1 : Int32)) C.1 C.2.1 dX0_layOut_73 (by decide) ?_
  refine lv_istore (lv' := [(8, .int (-1 : Int32)), (7, .int x2), (6, .int v_3), (5, .int o_1.1), (0, .ref x0), (1, .int x1), (2, .int x2)]) C.1 C.2.1 dX0_layOut_74 hl (by decide) rfl (fun ls hl => ?_)
  refine lv_iconst (v := (0 : Int32)) C.1 C.2.1 dX0_layOut_76 (by decide) ?_
  refine lv_istore (lv' := [(9, .int (0 : Int32)), (8, .int (-1 : Int32)), (7, .int x2), (6, .int v_3), (5, .int o_1.1), (0, .ref x0), (1, .int x1), (2, .int x2)]) C.1 C.2.1 dX0_layOut_77 hl (by decide) rfl (fun ls hl => ?_)
  exact bX0_layOut_79 C F k_x0 hkm hW hZ _ (lv_sub hl [5, 6, 4, 3, 2, 1, 0] rfl) hE
set_option maxRecDepth 20000 in
theorem bX0_layOut_11 {p : Program} {l : Launch} {e : Env} {s : State} {m : MethodId} {args : Array Value} {below : List Frame} {meth : Method} {c : Code} {X : Ec} {h0 : Hp} {o : Int32 × Hp} {F : Nat} (C : Cx X p s m args meth c RX0 cX0_layOut 14 (some .boolean) "layOut") : ∀ (f : Nat) {h : Hp} {x0 : Nat} {x1 : Int32} {x2 : Int32} {x3 : Int64} {x5 : Int32} {H : Heap} {locs : List Loc} (k_x0 : hK h x0 = 0), Km h0 h → Wx X h H → va_S (aA (eB X)) s.heap H locs → ∀ (ls : Array Slot), lv_has ls 14 [(0, .ref x0), (1, .int x1), (2, .int x2), (3, .long x3), (5, .int x5)] → sX0_layOut_11 F f h x0 x1 x2 x3 x5 = some o → W p l e (rm 2 42) s m args below meth c H locs 0 0 (MQ below (QI X h0 o.1 o.2) args s 0 0 (aA (eB X))) (F0 m 11 ls []) := by
  intro f
  induction f with
  | zero =>
    intro h x0 x1 x2 x3 x5 H locs k_x0 hkm hW hZ ls hl hE
    rw [sX0_layOut_11] at hE
    cases hE
  | succ f ih =>
    intro h x0 x1 x2 x3 x5 H locs k_x0 hkm hW hZ ls hl hE
    rw [sX0_layOut_11] at hE
    have hk_11 : ∀ (h : Hp) (x0 : Nat) (x1 : Int32) (x2 : Int32) (x3 : Int64) (x5 : Int32) (H : Heap) (locs : List Loc), hK h x0 = 0 → Km h0 h → Wx X h H → va_S (aA (eB X)) s.heap H locs → ∀ (ls : Array Slot), lv_has ls 14 [(0, .ref x0), (1, .int x1), (2, .int x2), (3, .long x3), (5, .int x5)] → sX0_layOut_11 F f h x0 x1 x2 x3 x5 = some o → W p l e (rm 2 42) s m args below meth c H locs 0 0 (MQ below (QI X h0 o.1 o.2) args s 0 0 (aA (eB X))) (F0 m 11 ls []) := fun h x0 x1 x2 x3 x5 H locs k_x0 a b c ls hl hE => ih k_x0 a b c ls hl hE
    refine lv_iload C.1 C.2.1 dX0_layOut_11 (lv_at hl 4 rfl) ?_
    refine lv_bipush (v := (64 : Int32)) C.1 C.2.1 dX0_layOut_13 (by decide) ?_
    refine lv_icmp_ge (tgt := 55) C.1 C.2.1 dX0_layOut_15 (by decide) (fun c_1 => ?_) (fun c_1 => ?_)
    · have hE := br_p hE c_1
      exact bX0_layOut_55 C k_x0 hkm hW hZ _ (lv_sub hl [0, 1, 2] rfl) hE
    · have hE := br_n hE c_1
      refine lv_lload_n C.1 C.2.1 dX0_layOut_18 rfl (lv_at hl 3 rfl) ?_
      refine lv_lconst (v := (0 : Int64)) C.1 C.2.1 dX0_layOut_19 (by decide) ?_
      refine W.lcmp C.1 C.2.1 dX0_layOut_20 ?_
      refine lv_if_eq (tgt := 55) C.1 C.2.1 dX0_layOut_21 (by decide) (fun c_2 => ?_) (fun c_2 => ?_)
      · have hE := br_p hE c_2
        exact bX0_layOut_55 C k_x0 hkm hW hZ _ (lv_sub hl [0, 1, 2] rfl) hE
      · have hE := br_n hE c_2
        refine lv_aload_n C.1 C.2.1 dX0_layOut_24 rfl (lv_at hl 0 rfl) ?_
        obtain ⟨r_3, er_3, hE⟩ := cl_e hE
        refine gf_X0_14 C hW k_x0 er_3 dX0_layOut_25 (fun k_r_3 => ?_)
        refine lv_lload_n C.1 C.2.1 dX0_layOut_28 rfl (lv_at hl 3 rfl) ?_
        obtain ⟨o_4, eo_4, hE⟩ := cl_e hE
        refine x_kI (o := o_4) (x_runSN (As := [.long x3]) (rest := [.ref r_3]) C (ct_X11_lowest l X eo_4) cn_X0_169 hW hZ rfl hl.1 (Nat.le_of_ble_eq_true rfl) rfl dX0_layOut_29 ⟨Nat.le_of_ble_eq_true rfl, Nat.le_of_ble_eq_true rfl⟩ ⟨Nat.le_refl _, Nat.le_refl _⟩) hZ (fun _ _ hW km hZ => ?_)
        replace hkm := hkm.tr km
        replace k_x0 := km.at k_x0 (by decide)
        replace k_r_3 := km.at k_r_3 (by decide)
        refine lv_iconst (v := (-1 : Int32)) C.1 C.2.1 dX0_layOut_32 (by decide) ?_
        refine lv_aload_n C.1 C.2.1 dX0_layOut_33 rfl (lv_at hl 0 rfl) ?_
        obtain ⟨r_5, er_5, hE⟩ := cl_e hE
        refine gf_X0_40 C hW k_x0 er_5 dX0_layOut_34 (fun k_r_5 => ?_)
        refine gf_X0_67 C hW k_r_5 dX0_layOut_37 ?_
        obtain ⟨o_6, eo_6, hE⟩ := cl_e hE
        refine x_kV (o := o_6) (z_runV (As := [.int o_4.1, .int (-1 : Int32), .int (hI o_4.2 r_5 4)]) (rest := []) C (ct_X3_put l X k_r_3 eo_6) cw_X0_173 hW hZ k_r_3 (by decide) rfl rfl rfl hl.1 (Nat.le_of_ble_eq_true rfl) rfl dX0_layOut_40 ⟨Nat.le_of_ble_eq_true rfl, Nat.le_of_ble_eq_true rfl⟩ ⟨Nat.le_refl _, Nat.le_refl _⟩) hZ (fun _ _ hW km hZ => ?_)
        replace hkm := hkm.tr km
        replace k_x0 := km.at k_x0 (by decide)
        refine lv_lload_n C.1 C.2.1 dX0_layOut_43 rfl (lv_at hl 3 rfl) ?_
        refine lv_lload_n C.1 C.2.1 dX0_layOut_44 rfl (lv_at hl 3 rfl) ?_
        refine lv_lconst (v := (1 : Int64)) C.1 C.2.1 dX0_layOut_45 (by decide) ?_
        refine lv_lsub C.1 C.2.1 dX0_layOut_46 ?_
        refine lv_land C.1 C.2.1 dX0_layOut_47 ?_
        obtain ⟨v_7, ev_7, hE⟩ := nm_e2 hE
        refine x_nmJ ev_7 ?_
        refine lv_lstore_n (lv' := [(3, .long v_7), (0, .ref x0), (1, .int x1), (2, .int x2), (5, .int x5)]) C.1 C.2.1 dX0_layOut_48 rfl hl (by decide) rfl (fun ls hl => ?_)
        obtain ⟨v_8, ev_8, hE⟩ := nm_e2 hE
        refine lv_iinc (v := v_8) (lv' := [(5, .int v_8), (3, .long v_7), (0, .ref x0), (1, .int x1), (2, .int x2)]) C.1 C.2.1 dX0_layOut_49 hl (k := 4) rfl (by rw [ev_8]; rfl) (by decide) rfl (fun ls hl => ?_)
        refine lv_goto (tgt := 11) C.1 C.2.1 dX0_layOut_52 (by decide) ?_
        exact hk_11 _ _ _ _ _ _ _ _ k_x0 hkm hW hZ _ (lv_sub hl [2, 3, 4, 1, 0] rfl) hE
set_option maxRecDepth 20000 in
theorem ct_X0_layOut (l : Launch) (X : Ec) (F : Nat) {h : Hp} {x0 : Nat} {x1 : Int32} {x2 : Int32} {o : Int32 × Hp} (k_x0 : hK h x0 = 0) (hE : sX0_layOut F h x0 x1 x2 = some o) : MetI l yX0_layOut cX0_layOut 14 (some .boolean) 2 42 X [.ref x0, .int x1, .int x2] h o := by
  refine x_met (by decide) (Nat.le_of_ble_eq_true rfl) ?_
  intro p e s m below meth c ls C hl hW hZ
  have hl : lv_has ls 14 [(0, .ref x0), (1, .int x1), (2, .int x2)] := hl
  have hkm : Km h h := Km.rf h
  refine lv_aload_n C.1 C.2.1 dX0_layOut_0 rfl (lv_at hl 0 rfl) ?_
  obtain ⟨r_1, er_1, hE⟩ := cl_e hE
  refine gf_X0_14 C hW k_x0 er_1 dX0_layOut_1 (fun k_r_1 => ?_)
  obtain ⟨o_2, eo_2, hE⟩ := cl_e hE
  refine x_kJ (o := o_2) (z_runV (As := []) (rest := []) C (ct_X3_occupied l X k_r_1 eo_2) cw_X0_165 hW hZ k_r_1 (by decide) rfl rfl rfl hl.1 (Nat.le_of_ble_eq_true rfl) rfl dX0_layOut_4 ⟨Nat.le_of_ble_eq_true rfl, Nat.le_of_ble_eq_true rfl⟩ ⟨Nat.le_refl _, Nat.le_refl _⟩) hZ (fun _ _ hW km hZ => ?_)
  replace hkm := hkm.tr km
  replace k_x0 := km.at k_x0 (by decide)
  refine lv_lstore_n (lv' := [(3, .long o_2.1), (0, .ref x0), (1, .int x1), (2, .int x2)]) C.1 C.2.1 dX0_layOut_7 rfl hl (by decide) rfl (fun ls hl => ?_)
  refine lv_iconst (v := (0 : Int32)) C.1 C.2.1 dX0_layOut_8 (by decide) ?_
  refine lv_istore (lv' := [(5, .int (0 : Int32)), (3, .long o_2.1), (0, .ref x0), (1, .int x1), (2, .int x2)]) C.1 C.2.1 dX0_layOut_9 hl (by decide) rfl (fun ls hl => ?_)
  exact bX0_layOut_11 C F k_x0 hkm hW hZ _ (lv_sub hl [2, 3, 4, 1, 0] rfl) hE

