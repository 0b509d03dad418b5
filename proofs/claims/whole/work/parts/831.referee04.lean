set_option maxRecDepth 100000 in
theorem ms_59 : Cond.selects RX5 yX5_nearest yX5_nearest ∈ W0 := w0_in (List.mem_append_left _ (List.mem_of_getElem? (i := 59) rfl)) rfl
set_option maxRecDepth 100000 in
theorem m_1208 : Cond.methodLink RX5 197 yX5_nearest ∈ W0 := w0_in (List.mem_append_right _ (List.mem_of_getElem? (i := 1208) rfl)) rfl
set_option maxRecDepth 100000 in
theorem m_1210 : Cond.instanceMethod yX5_nearest ∈ W0 := w0_in (List.mem_append_right _ (List.mem_of_getElem? (i := 1210) rfl)) rfl
set_option maxRecDepth 100000 in
theorem m_1211 : Cond.code yX5_nearest cX5_nearest 6 (some .int) ∈ W0 := w0_in (List.mem_append_right _ (List.mem_of_getElem? (i := 1211) rfl)) rfl
set_option maxRecDepth 100000 in
theorem m_1212 : Cond.methodLink RX5 201 Lib.Math.abs.name ∈ W0 := w0_in (List.mem_append_right _ (List.mem_of_getElem? (i := 1212) rfl)) rfl
theorem cw_X5_197 : cwd RX5 197 yX5_nearest cX5_nearest 6 (some .int) false 3 := ⟨m_1211, m_1208, m_7, ⟨m_1210, ms_59⟩, by decide, by decide, by decide +kernel⟩
theorem dX5_addCastling_0 : decode cX5_addCastling 0 = .ok (.iconst 1, 1) := by decide +kernel
theorem dX5_addCastling_1 : decode cX5_addCastling 1 = .ok (.aload_n 0, 1) := by decide +kernel
theorem dX5_addCastling_2 : decode cX5_addCastling 2 = .ok (.getfield 71, 3) := by decide +kernel
theorem dX5_addCastling_5 : decode cX5_addCastling 5 = .ok (.getfield 78, 3) := by decide +kernel
theorem dX5_addCastling_8 : decode cX5_addCastling 8 = .ok (.isub, 1) := by decide +kernel
theorem dX5_addCastling_9 : decode cX5_addCastling 9 = .ok (.istore 4, 2) := by decide +kernel
theorem dX5_addCastling_11 : decode cX5_addCastling 11 = .ok (.aload_n 0, 1) := by decide +kernel
theorem dX5_addCastling_12 : decode cX5_addCastling 12 = .ok (.aload_n 0, 1) := by decide +kernel
theorem dX5_addCastling_13 : decode cX5_addCastling 13 = .ok (.getfield 71, 3) := by decide +kernel
theorem dX5_addCastling_16 : decode cX5_addCastling 16 = .ok (.iload_n 1, 1) := by decide +kernel
theorem dX5_addCastling_17 : decode cX5_addCastling 17 = .ok (.iload_n 2, 1) := by decide +kernel
theorem dX5_addCastling_18 : decode cX5_addCastling 18 = .ok (.invokevirtual 197, 3) := by decide +kernel
theorem dX5_addCastling_21 : decode cX5_addCastling 21 = .ok (.istore 5, 2) := by decide +kernel
theorem dX5_addCastling_23 : decode cX5_addCastling 23 = .ok (.iload 5, 2) := by decide +kernel
theorem dX5_addCastling_25 : decode cX5_addCastling 25 = .ok (.iconst (-1), 1) := by decide +kernel
theorem dX5_addCastling_26 : decode cX5_addCastling 26 = .ok (.if_icmp .eq 47, 3) := by decide +kernel
theorem dX5_addCastling_29 : decode cX5_addCastling 29 = .ok (.iload 5, 2) := by decide +kernel
theorem dX5_addCastling_31 : decode cX5_addCastling 31 = .ok (.iload_n 1, 1) := by decide +kernel
theorem dX5_addCastling_32 : decode cX5_addCastling 32 = .ok (.isub, 1) := by decide +kernel
theorem dX5_addCastling_33 : decode cX5_addCastling 33 = .ok (.invokestatic 201, 3) := by decide +kernel
theorem dX5_addCastling_36 : decode cX5_addCastling 36 = .ok (.iconst 3, 1) := by decide +kernel
theorem dX5_addCastling_37 : decode cX5_addCastling 37 = .ok (.if_icmp .lt 36, 3) := by decide +kernel
theorem dX5_addCastling_40 : decode cX5_addCastling 40 = .ok (.aload_n 0, 1) := by decide +kernel
theorem dX5_addCastling_41 : decode cX5_addCastling 41 = .ok (.getfield 71, 3) := by decide +kernel
theorem dX5_addCastling_44 : decode cX5_addCastling 44 = .ok (.getfield 93, 3) := by decide +kernel
theorem dX5_addCastling_47 : decode cX5_addCastling 47 = .ok (.aload_n 0, 1) := by decide +kernel
theorem dX5_addCastling_48 : decode cX5_addCastling 48 = .ok (.getfield 71, 3) := by decide +kernel
theorem dX5_addCastling_51 : decode cX5_addCastling 51 = .ok (.getfield 33, 3) := by decide +kernel
theorem dX5_addCastling_54 : decode cX5_addCastling 54 = .ok (.aload_n 0, 1) := by decide +kernel
theorem dX5_addCastling_55 : decode cX5_addCastling 55 = .ok (.getfield 71, 3) := by decide +kernel
theorem dX5_addCastling_58 : decode cX5_addCastling 58 = .ok (.getfield 78, 3) := by decide +kernel
theorem dX5_addCastling_61 : decode cX5_addCastling 61 = .ok (.laload, 1) := by decide +kernel
theorem dX5_addCastling_62 : decode cX5_addCastling 62 = .ok (.land, 1) := by decide +kernel
theorem dX5_addCastling_63 : decode cX5_addCastling 63 = .ok (.lconst 1, 1) := by decide +kernel
theorem dX5_addCastling_64 : decode cX5_addCastling 64 = .ok (.iload 5, 2) := by decide +kernel
theorem dX5_addCastling_66 : decode cX5_addCastling 66 = .ok (.lshl, 1) := by decide +kernel
theorem dX5_addCastling_67 : decode cX5_addCastling 67 = .ok (.land, 1) := by decide +kernel
theorem dX5_addCastling_68 : decode cX5_addCastling 68 = .ok (.lconst 0, 1) := by decide +kernel
theorem dX5_addCastling_69 : decode cX5_addCastling 69 = .ok (.lcmp, 1) := by decide +kernel
theorem dX5_addCastling_70 : decode cX5_addCastling 70 = .ok (.ifCond .ne 4, 3) := by decide +kernel
theorem dX5_addCastling_73 : decode cX5_addCastling 73 = .ok (.return_, 1) := by decide +kernel
theorem dX5_addCastling_74 : decode cX5_addCastling 74 = .ok (.aload_n 0, 1) := by decide +kernel
theorem dX5_addCastling_75 : decode cX5_addCastling 75 = .ok (.aload_n 0, 1) := by decide +kernel
theorem dX5_addCastling_76 : decode cX5_addCastling 76 = .ok (.getfield 71, 3) := by decide +kernel
theorem dX5_addCastling_79 : decode cX5_addCastling 79 = .ok (.iload_n 1, 1) := by decide +kernel
theorem dX5_addCastling_80 : decode cX5_addCastling 80 = .ok (.iload 4, 2) := by decide +kernel
theorem dX5_addCastling_82 : decode cX5_addCastling 82 = .ok (.invokevirtual 63, 3) := by decide +kernel
theorem dX5_addCastling_85 : decode cX5_addCastling 85 = .ok (.ifCond .ne 37, 3) := by decide +kernel
theorem dX5_addCastling_88 : decode cX5_addCastling 88 = .ok (.aload_n 0, 1) := by decide +kernel
theorem dX5_addCastling_89 : decode cX5_addCastling 89 = .ok (.aload_n 0, 1) := by decide +kernel
theorem dX5_addCastling_90 : decode cX5_addCastling 90 = .ok (.getfield 71, 3) := by decide +kernel
theorem dX5_addCastling_93 : decode cX5_addCastling 93 = .ok (.iload_n 1, 1) := by decide +kernel
theorem dX5_addCastling_94 : decode cX5_addCastling 94 = .ok (.iload_n 2, 1) := by decide +kernel
theorem dX5_addCastling_95 : decode cX5_addCastling 95 = .ok (.iadd, 1) := by decide +kernel
theorem dX5_addCastling_96 : decode cX5_addCastling 96 = .ok (.iload 4, 2) := by decide +kernel
theorem dX5_addCastling_98 : decode cX5_addCastling 98 = .ok (.invokevirtual 63, 3) := by decide +kernel
theorem dX5_addCastling_101 : decode cX5_addCastling 101 = .ok (.ifCond .ne 21, 3) := by decide +kernel
theorem dX5_addCastling_104 : decode cX5_addCastling 104 = .ok (.aload_n 0, 1) := by decide +kernel
theorem dX5_addCastling_105 : decode cX5_addCastling 105 = .ok (.aload_n 0, 1) := by decide +kernel
theorem dX5_addCastling_106 : decode cX5_addCastling 106 = .ok (.getfield 71, 3) := by decide +kernel
theorem dX5_addCastling_109 : decode cX5_addCastling 109 = .ok (.iload_n 1, 1) := by decide +kernel
theorem dX5_addCastling_110 : decode cX5_addCastling 110 = .ok (.iconst 2, 1) := by decide +kernel
theorem dX5_addCastling_111 : decode cX5_addCastling 111 = .ok (.iload_n 2, 1) := by decide +kernel
theorem dX5_addCastling_112 : decode cX5_addCastling 112 = .ok (.imul, 1) := by decide +kernel
theorem dX5_addCastling_113 : decode cX5_addCastling 113 = .ok (.iadd, 1) := by decide +kernel
theorem dX5_addCastling_114 : decode cX5_addCastling 114 = .ok (.iload 4, 2) := by decide +kernel
theorem dX5_addCastling_116 : decode cX5_addCastling 116 = .ok (.invokevirtual 63, 3) := by decide +kernel
theorem dX5_addCastling_119 : decode cX5_addCastling 119 = .ok (.ifCond .eq 4, 3) := by decide +kernel
theorem dX5_addCastling_122 : decode cX5_addCastling 122 = .ok (.return_, 1) := by decide +kernel
theorem dX5_addCastling_123 : decode cX5_addCastling 123 = .ok (.aload_n 0, 1) := by decide +kernel
theorem dX5_addCastling_124 : decode cX5_addCastling 124 = .ok (.iload_n 1, 1) := by decide +kernel
theorem dX5_addCastling_125 : decode cX5_addCastling 125 = .ok (.iload_n 1, 1) := by decide +kernel
theorem dX5_addCastling_126 : decode cX5_addCastling 126 = .ok (.iconst 2, 1) := by decide +kernel
theorem dX5_addCastling_127 : decode cX5_addCastling 127 = .ok (.iload_n 2, 1) := by decide +kernel
theorem dX5_addCastling_128 : decode cX5_addCastling 128 = .ok (.imul, 1) := by decide +kernel
theorem dX5_addCastling_129 : decode cX5_addCastling 129 = .ok (.iadd, 1) := by decide +kernel
theorem dX5_addCastling_130 : decode cX5_addCastling 130 = .ok (.aload_n 0, 1) := by decide +kernel
theorem dX5_addCastling_131 : decode cX5_addCastling 131 = .ok (.getfield 22, 3) := by decide +kernel
theorem dX5_addCastling_134 : decode cX5_addCastling 134 = .ok (.getfield 129, 3) := by decide +kernel
theorem dX5_addCastling_137 : decode cX5_addCastling 137 = .ok (.iconst 2, 1) := by decide +kernel
theorem dX5_addCastling_138 : decode cX5_addCastling 138 = .ok (.invokestatic 176, 3) := by decide +kernel
theorem dX5_addCastling_141 : decode cX5_addCastling 141 = .ok (.invokevirtual 170, 3) := by decide +kernel
theorem dX5_addCastling_144 : decode cX5_addCastling 144 = .ok (.aload_n 0, 1) := by decide +kernel
theorem dX5_addCastling_145 : decode cX5_addCastling 145 = .ok (.getfield 82, 3) := by decide +kernel
theorem dX5_addCastling_148 : decode cX5_addCastling 148 = .ok (.iconst 1, 1) := by decide +kernel
theorem dX5_addCastling_149 : decode cX5_addCastling 149 = .ok (.isub, 1) := by decide +kernel
theorem dX5_addCastling_150 : decode cX5_addCastling 150 = .ok (.istore 6, 2) := by decide +kernel
theorem dX5_addCastling_152 : decode cX5_addCastling 152 = .ok (.iload 6, 2) := by decide +kernel
theorem dX5_addCastling_154 : decode cX5_addCastling 154 = .ok (.iload_n 3, 1) := by decide +kernel
theorem dX5_addCastling_155 : decode cX5_addCastling 155 = .ok (.if_icmp .le 70, 3) := by decide +kernel
theorem dX5_addCastling_158 : decode cX5_addCastling 158 = .ok (.aload_n 0, 1) := by decide +kernel
theorem dX5_addCastling_159 : decode cX5_addCastling 159 = .ok (.getfield 123, 3) := by decide +kernel
theorem dX5_addCastling_162 : decode cX5_addCastling 162 = .ok (.iload 6, 2) := by decide +kernel
theorem dX5_addCastling_164 : decode cX5_addCastling 164 = .ok (.iconst 1, 1) := by decide +kernel
theorem dX5_addCastling_165 : decode cX5_addCastling 165 = .ok (.isub, 1) := by decide +kernel
theorem dX5_addCastling_166 : decode cX5_addCastling 166 = .ok (.iaload, 1) := by decide +kernel
theorem dX5_addCastling_167 : decode cX5_addCastling 167 = .ok (.invokestatic 184, 3) := by decide +kernel
theorem dX5_addCastling_170 : decode cX5_addCastling 170 = .ok (.aload_n 0, 1) := by decide +kernel
theorem dX5_addCastling_171 : decode cX5_addCastling 171 = .ok (.getfield 123, 3) := by decide +kernel
theorem dX5_addCastling_174 : decode cX5_addCastling 174 = .ok (.iload 6, 2) := by decide +kernel
theorem dX5_addCastling_176 : decode cX5_addCastling 176 = .ok (.iaload, 1) := by decide +kernel
theorem dX5_addCastling_177 : decode cX5_addCastling 177 = .ok (.invokestatic 184, 3) := by decide +kernel
theorem dX5_addCastling_180 : decode cX5_addCastling 180 = .ok (.if_icmp .le 45, 3) := by decide +kernel
theorem dX5_addCastling_183 : decode cX5_addCastling 183 = .ok (.aload_n 0, 1) := by decide +kernel
theorem dX5_addCastling_184 : decode cX5_addCastling 184 = .ok (.getfield 123, 3) := by decide +kernel
theorem dX5_addCastling_187 : decode cX5_addCastling 187 = .ok (.iload 6, 2) := by decide +kernel
theorem dX5_addCastling_189 : decode cX5_addCastling 189 = .ok (.iconst 1, 1) := by decide +kernel
theorem dX5_addCastling_190 : decode cX5_addCastling 190 = .ok (.isub, 1) := by decide +kernel
theorem dX5_addCastling_191 : decode cX5_addCastling 191 = .ok (.iaload, 1) := by decide +kernel
theorem dX5_addCastling_192 : decode cX5_addCastling 192 = .ok (.istore 7, 2) := by decide +kernel
theorem dX5_addCastling_194 : decode cX5_addCastling 194 = .ok (.aload_n 0, 1) := by decide +kernel
theorem dX5_addCastling_195 : decode cX5_addCastling 195 = .ok (.getfield 123, 3) := by decide +kernel
theorem dX5_addCastling_198 : decode cX5_addCastling 198 = .ok (.iload 6, 2) := by decide +kernel
theorem dX5_addCastling_200 : decode cX5_addCastling 200 = .ok (.iconst 1, 1) := by decide +kernel
theorem dX5_addCastling_201 : decode cX5_addCastling 201 = .ok (.isub, 1) := by decide +kernel
theorem dX5_addCastling_202 : decode cX5_addCastling 202 = .ok (.aload_n 0, 1) := by decide +kernel
theorem dX5_addCastling_203 : decode cX5_addCastling 203 = .ok (.getfield 123, 3) := by decide +kernel
theorem dX5_addCastling_206 : decode cX5_addCastling 206 = .ok (.iload 6, 2) := by decide +kernel
theorem dX5_addCastling_208 : decode cX5_addCastling 208 = .ok (.iaload, 1) := by decide +kernel
theorem dX5_addCastling_209 : decode cX5_addCastling 209 = .ok (.iastore, 1) := by decide +kernel
theorem dX5_addCastling_210 : decode cX5_addCastling 210 = .ok (.aload_n 0, 1) := by decide +kernel
theorem dX5_addCastling_211 : decode cX5_addCastling 211 = .ok (.getfield 123, 3) := by decide +kernel
theorem dX5_addCastling_214 : decode cX5_addCastling 214 = .ok (.iload 6, 2) := by decide +kernel
theorem dX5_addCastling_216 : decode cX5_addCastling 216 = .ok (.iload 7, 2) := by decide +kernel
theorem dX5_addCastling_218 : decode cX5_addCastling 218 = .ok (.iastore, 1) := by decide +kernel
theorem dX5_addCastling_219 : decode cX5_addCastling 219 = .ok (.iinc 6 (-1), 3) := by decide +kernel
theorem dX5_addCastling_222 : decode cX5_addCastling 222 = .ok (.goto (-70), 3) := by decide +kernel
theorem dX5_addCastling_225 : decode cX5_addCastling 225 = .ok (.return_, 1) := by decide +kernel
set_option maxRecDepth 20000 in
theorem moX5_addCastling_73 {o : Hp} {F : Nat} {h : Hp} (hE : sX5_addCastling_73 F h  = some o) : Le h o := by
  exact le_some1 hE
set_option maxRecDepth 20000 in
theorem moX5_addCastling_122 {o : Hp} {F : Nat} {h : Hp} (hE : sX5_addCastling_122 F h  = some o) : Le h o := by
  exact le_some1 hE
set_option maxRecDepth 20000 in
theorem moX5_addCastling_225 {o : Hp} {F : Nat} {h : Hp} (hE : sX5_addCastling_225 F h  = some o) : Le h o := by
  exact le_some1 hE
set_option maxRecDepth 20000 in
theorem moX5_addCastling_152 {o : Hp} {F : Nat} : ∀ (f : Nat) {h : Hp} {x0 : Nat} {x3 : Int32} {x6 : Int32}, sX5_addCastling_152 F f h x0 x3 x6 = some o → Le h o := by
  intro f
  induction f with
  | zero =>
    intro h x0 x3 x6 hE
    rw [sX5_addCastling_152] at hE
    cases hE
  | succ f ih =>
    intro h x0 x3 x6 hE
    rw [sX5_addCastling_152] at hE
    have mk_152 : ∀ (h : Hp) (x0 : Nat) (x3 : Int32) (x6 : Int32), sX5_addCastling_152 F f h x0 x3 x6 = some o → Le h o := fun h x0 x3 x6 hE => ih hE
    rcases br_e hE with ⟨_, hE⟩ | ⟨_, hE⟩
    · exact moX5_addCastling_225 hE
    · obtain ⟨r_2, er_2, hE⟩ := cl_e hE
      obtain ⟨g_3, hE⟩ := gd_e hE
      obtain ⟨o_4, eo_4, hE⟩ := cl_e hE
      refine (moX5_comeTo eo_4).tr ?_
      obtain ⟨r_5, er_5, hE⟩ := cl_e hE
      obtain ⟨g_6, hE⟩ := gd_e hE
      obtain ⟨o_7, eo_7, hE⟩ := cl_e hE
      refine (moX5_comeTo eo_7).tr ?_
      rcases br_e hE with ⟨_, hE⟩ | ⟨_, hE⟩
      · exact moX5_addCastling_225 hE
      · obtain ⟨r_9, er_9, hE⟩ := cl_e hE
        obtain ⟨g_10, hE⟩ := gd_e hE
        obtain ⟨v_11, ev_11, hE⟩ := nm_e2 hE
        obtain ⟨r_12, er_12, hE⟩ := cl_e hE
        obtain ⟨r_13, er_13, hE⟩ := cl_e hE
        obtain ⟨g_14, hE⟩ := gd_e hE
        obtain ⟨g_15, hE⟩ := gd_e hE
        obtain ⟨h_16, eh_16, hE⟩ := nm_e2 hE
        refine (le_I eh_16).tr ?_
        obtain ⟨r_17, er_17, hE⟩ := cl_e hE
        obtain ⟨g_18, hE⟩ := gd_e hE
        obtain ⟨h_19, eh_19, hE⟩ := nm_e2 hE
        refine (le_I eh_19).tr ?_
        obtain ⟨v_20, ev_20, hE⟩ := nm_e2 hE
        exact mk_152 _ _ _ _ hE
set_option maxRecDepth 20000 in
theorem moX5_addCastling {o : Hp} {F : Nat} {h : Hp} {x0 : Nat} {x1 : Int32} {x2 : Int32} {x3 : Int32} (hE : sX5_addCastling F h x0 x1 x2 x3 = some o) : Le h o := by
  obtain ⟨r_1, er_1, hE⟩ := cl_e hE
  obtain ⟨v_2, ev_2, hE⟩ := nm_e2 hE
  obtain ⟨r_3, er_3, hE⟩ := cl_e hE
  obtain ⟨o_4, eo_4, hE⟩ := cl_e hE
  refine (moX5_nearest eo_4).tr ?_
  rcases br_e hE with ⟨_, hE⟩ | ⟨_, hE⟩
  · exact moX5_addCastling_73 hE
  · rcases br_e hE with ⟨_, hE⟩ | ⟨_, hE⟩
    · exact moX5_addCastling_73 hE
    · obtain ⟨r_7, er_7, hE⟩ := cl_e hE
      obtain ⟨r_8, er_8, hE⟩ := cl_e hE
      obtain ⟨r_9, er_9, hE⟩ := cl_e hE
      obtain ⟨r_10, er_10, hE⟩ := cl_e hE
      obtain ⟨g_11, hE⟩ := gd_e hE
      rcases br_e hE with ⟨_, hE⟩ | ⟨_, hE⟩
      · exact moX5_addCastling_73 hE
      · obtain ⟨r_13, er_13, hE⟩ := cl_e hE
        obtain ⟨o_14, eo_14, hE⟩ := cl_e hE
        refine (moX5_isHit eo_14).tr ?_
        rcases br_e hE with ⟨_, hE⟩ | ⟨_, hE⟩
        · obtain ⟨r_16, er_16, hE⟩ := cl_e hE
          obtain ⟨o_17, eo_17, hE⟩ := cl_e hE
          refine (moX5_isHit eo_17).tr ?_
          rcases br_e hE with ⟨_, hE⟩ | ⟨_, hE⟩
          · obtain ⟨r_19, er_19, hE⟩ := cl_e hE
            obtain ⟨o_20, eo_20, hE⟩ := cl_e hE
            refine (moX5_isHit eo_20).tr ?_
            rcases br_e hE with ⟨_, hE⟩ | ⟨_, hE⟩
            · obtain ⟨r_22, er_22, hE⟩ := cl_e hE
              obtain ⟨o_23, eo_23, hE⟩ := cl_e hE
              refine (moX5_plainMove eo_23).tr ?_
              obtain ⟨o_24, eo_24, hE⟩ := cl_e hE
              refine (moX5_addMove eo_24).tr ?_
              obtain ⟨v_25, ev_25, hE⟩ := nm_e2 hE
              exact moX5_addCastling_152 _ hE
            · exact moX5_addCastling_122 hE
          · exact moX5_addCastling_122 hE
        · exact moX5_addCastling_122 hE
set_option maxRecDepth 20000 in
theorem bX5_addCastling_73 {p : Program} {l : Launch} {e : Env} {s : State} {m : MethodId} {args : Array Value} {below : List Frame} {meth : Method} {c : Code} {X : Ec} {h0 : Hp} {o : Hp} {F : Nat} (C : Cx X p s m args meth c RX5 cX5_addCastling 8 none "addCastling") {h : Hp} {H : Heap} {locs : List Loc} (hkm : Km h0 h) (hW : Wx X h H) (hZ : va_S (aA (eB X)) s.heap H locs) (ls : Array Slot) (hl : lv_has ls 8 []) (hE : sX5_addCastling_73 F h  = some o) : W p l e (rm 1 38) s m args below meth c H locs 0 0 (MQ below (QV X h0 o) args s 0 0 (aA (eB X))) (F0 m 73 ls []) := by
  exact x_vret C rfl hW hZ hkm hE dX5_addCastling_73
set_option maxRecDepth 20000 in
theorem bX5_addCastling_122 {p : Program} {l : Launch} {e : Env} {s : State} {m : MethodId} {args : Array Value} {below : List Frame} {meth : Method} {c : Code} {X : Ec} {h0 : Hp} {o : Hp} {F : Nat} (C : Cx X p s m args meth c RX5 cX5_addCastling 8 none "addCastling") {h : Hp} {H : Heap} {locs : List Loc} (hkm : Km h0 h) (hW : Wx X h H) (hZ : va_S (aA (eB X)) s.heap H locs) (ls : Array Slot) (hl : lv_has ls 8 []) (hE : sX5_addCastling_122 F h  = some o) : W p l e (rm 1 38) s m args below meth c H locs 0 0 (MQ below (QV X h0 o) args s 0 0 (aA (eB X))) (F0 m 122 ls []) := by
  exact x_vret C rfl hW hZ hkm hE dX5_addCastling_122
set_option maxRecDepth 20000 in
theorem bX5_addCastling_225 {p : Program} {l : Launch} {e : Env} {s : State} {m : MethodId} {args : Array Value} {below : List Frame} {meth : Method} {c : Code} {X : Ec} {h0 : Hp} {o : Hp} {F : Nat} (C : Cx X p s m args meth c RX5 cX5_addCastling 8 none "addCastling") {h : Hp} {H : Heap} {locs : List Loc} (hkm : Km h0 h) (hW : Wx X h H) (hZ : va_S (aA (eB X)) s.heap H locs) (ls : Array Slot) (hl : lv_has ls 8 []) (hE : sX5_addCastling_225 F h  = some o) : W p l e (rm 1 38) s m args below meth c H locs 0 0 (MQ below (QV X h0 o) args s 0 0 (aA (eB X))) (F0 m 225 ls []) := by
  exact x_vret C rfl hW hZ hkm hE dX5_addCastling_225
set_option maxRecDepth 20000 in
theorem bX5_addCastling_152 {p : Program} {l : Launch} {e : Env} {s : State} {m : MethodId} {args : Array Value} {below : List Frame} {meth : Method} {c : Code} {X : Ec} {h0 : Hp} {o : Hp} {F : Nat} (C : Cx X p s m args meth c RX5 cX5_addCastling 8 none "addCastling") : ∀ (f : Nat) {h : Hp} {x0 : Nat} {x3 : Int32} {x6 : Int32} {H : Heap} {locs : List Loc} (k_x0 : hK h x0 = 5), Km h0 h → Wx X h H → va_S (aA (eB X)) s.heap H locs → ∀ (ls : Array Slot), lv_has ls 8 [(0, .ref x0), (3, .int x3), (6, .int x6)] → sX5_addCastling_152 F f h x0 x3 x6 = some o → W p l e (rm 1 38) s m args below meth c H locs 0 0 (MQ below (QV X h0 o) args s 0 0 (aA (eB X))) (F0 m 152 ls []) := by
  intro f
  induction f with
  | zero =>
    intro h x0 x3 x6 H locs k_x0 hkm hW hZ ls hl hE
    rw [sX5_addCastling_152] at hE
    cases hE
  | succ f ih =>
    intro h x0 x3 x6 H locs k_x0 hkm hW hZ ls hl hE
    rw [sX5_addCastling_152] at hE
    have hk_152 : ∀ (h : Hp) (x0 : Nat) (x3 : Int32) (x6 : Int32) (H : Heap) (locs : List Loc), hK h x0 = 5 → Km h0 h → Wx X h H → va_S (aA (eB X)) s.heap H locs → ∀ (ls : Array Slot), lv_has ls 8 [(0, .ref x0), (3, .int x3), (6, .int x6)] → sX5_addCastling_152 F f h x0 x3 x6 = some o → W p l e (rm 1 38) s m args below meth c H locs 0 0 (MQ below (QV X h0 o) args s 0 0 (aA (eB X))) (F0 m 152 ls []) := fun h x0 x3 x6 H locs k_x0 a b c ls hl hE => ih k_x0 a b c ls hl hE
    refine lv_iload C.1 C.2.1 dX5_addCastling_152 (lv_at hl 2 rfl) ?_
    refine lv_iload_n C.1 C.2.1 dX5_addCastling_154 rfl (lv_at hl 1 rfl) ?_
    refine lv_icmp_le (tgt := 225) C.1 C.2.1 dX5_addCastling_155 (by decide) (fun c_1 => ?_) (fun c_1 => ?_)
    · have hE := br_p hE c_1
      exact bX5_addCastling_225 C hkm hW hZ _ (lv_sub hl [] rfl) hE
    · have hE := br_n hE c_1
      refine lv_aload_n C.1 C.2.1 dX5_addCastling_158 rfl (lv_at hl 0 rfl) ?_
      obtain ⟨r_2, er_2, hE⟩ := cl_e hE
      refine gf_X5_123 C hW k_x0 er_2 dX5_addCastling_159 (fun k_r_2 => ?_)
      refine lv_iload C.1 C.2.1 dX5_addCastling_162 (lv_at hl 2 rfl) ?_
      refine lv_iconst (v := (1 : Int32)) C.1 C.2.1 dX5_addCastling_164 (by decide) ?_
      refine lv_isub C.1 C.2.1 dX5_addCastling_165 ?_
      obtain ⟨g_3, hE⟩ := gd_e hE
      refine y_iald C hW k_r_2 g_3 dX5_addCastling_166 ?_
      obtain ⟨o_4, eo_4, hE⟩ := cl_e hE
      refine x_kI (o := o_4) (z_runS (As := [.int (hI h r_2 (x6 - (1 : Int32)).toNatClampNeg)]) (rest := []) C (ct_X5_comeTo l X eo_4) cw_X5_184 hW hZ rfl hl.1 (Nat.le_of_ble_eq_true rfl) rfl dX5_addCastling_167 ⟨Nat.le_of_ble_eq_true rfl, Nat.le_of_ble_eq_true rfl⟩ ⟨Nat.le_refl _, Nat.le_refl _⟩) hZ (fun _ _ hW km hZ => ?_)
      replace hkm := hkm.tr km
      replace k_x0 := km.at k_x0 (by decide)
      refine lv_aload_n C.1 C.2.1 dX5_addCastling_170 rfl (lv_at hl 0 rfl) ?_
      obtain ⟨r_5, er_5, hE⟩ := cl_e hE
      refine gf_X5_123 C hW k_x0 er_5 dX5_addCastling_171 (fun k_r_5 => ?_)
      refine lv_iload C.1 C.2.1 dX5_addCastling_174 (lv_at hl 2 rfl) ?_
      obtain ⟨g_6, hE⟩ := gd_e hE
      refine y_iald C hW k_r_5 g_6 dX5_addCastling_176 ?_
      obtain ⟨o_7, eo_7, hE⟩ := cl_e hE
      refine x_kI (o := o_7) (z_runS (As := [.int (hI o_4.2 r_5 x6.toNatClampNeg)]) (rest := [.int o_4.1]) C (ct_X5_comeTo l X eo_7) cw_X5_184 hW hZ rfl hl.1 (Nat.le_of_ble_eq_true rfl) rfl dX5_addCastling_177 ⟨Nat.le_of_ble_eq_true rfl, Nat.le_of_ble_eq_true rfl⟩ ⟨Nat.le_refl _, Nat.le_refl _⟩) hZ (fun _ _ hW km hZ => ?_)
      replace hkm := hkm.tr km
      replace k_x0 := km.at k_x0 (by decide)
      refine lv_icmp_le (tgt := 225) C.1 C.2.1 dX5_addCastling_180 (by decide) (fun c_8 => ?_) (fun c_8 => ?_)
      · have hE := br_p hE c_8
        exact bX5_addCastling_225 C hkm hW hZ _ (lv_sub hl [] rfl) hE
      · have hE := br_n hE c_8
        refine lv_aload_n C.1 C.2.1 dX5_addCastling_183 rfl (lv_at hl 0 rfl) ?_
        obtain ⟨r_9, er_9, hE⟩ := cl_e hE
        refine gf_X5_123 C hW k_x0 er_9 dX5_addCastling_184 (fun k_r_9 => ?_)
        refine lv_iload C.1 C.2.1 dX5_addCastling_187 (lv_at hl 2 rfl) ?_
        refine lv_iconst (v := (1 : Int32)) C.1 C.2.1 dX5_addCastling_189 (by decide) ?_
        refine lv_isub C.1 C.2.1 dX5_addCastling_190 ?_
        obtain ⟨g_10, hE⟩ := gd_e hE
        refine y_iald C hW k_r_9 g_10 dX5_addCastling_191 ?_
        obtain ⟨v_11, ev_11, hE⟩ := nm_e2 hE
        refine x_nmI ev_11 ?_
        refine lv_istore (lv' := [(7, .int v_11), (0, .ref x0), (3, .int x3), (6, .int x6)]) C.1 C.2.1 dX5_addCastling_192 hl (by decide) rfl (fun ls hl => ?_)
        refine lv_aload_n C.1 C.2.1 dX5_addCastling_194 rfl (lv_at hl 1 rfl) ?_
        obtain ⟨r_12, er_12, hE⟩ := cl_e hE
        refine gf_X5_123 C hW k_x0 er_12 dX5_addCastling_195 (fun k_r_12 => ?_)
        refine lv_iload C.1 C.2.1 dX5_addCastling_198 (lv_at hl 3 rfl) ?_
        refine lv_iconst (v := (1 : Int32)) C.1 C.2.1 dX5_addCastling_200 (by decide) ?_
        refine lv_isub C.1 C.2.1 dX5_addCastling_201 ?_
        refine lv_aload_n C.1 C.2.1 dX5_addCastling_202 rfl (lv_at hl 1 rfl) ?_
        obtain ⟨r_13, er_13, hE⟩ := cl_e hE
        refine gf_X5_123 C hW k_x0 er_13 dX5_addCastling_203 (fun k_r_13 => ?_)
        refine lv_iload C.1 C.2.1 dX5_addCastling_206 (lv_at hl 3 rfl) ?_
        obtain ⟨g_14, hE⟩ := gd_e hE
        refine y_iald C hW k_r_13 g_14 dX5_addCastling_208 ?_
        obtain ⟨g_15, hE⟩ := gd_e hE
        obtain ⟨h_16, eh_16, hE⟩ := nm_e2 hE
        refine y_iast C hW hZ k_r_12 g_15 eh_16 dX5_addCastling_209 (fun _ _ hW km hZ => ?_)
        replace hkm := hkm.tr km
        replace k_x0 := km.at k_x0 (by decide)
        refine lv_aload_n C.1 C.2.1 dX5_addCastling_210 rfl (lv_at hl 1 rfl) ?_
        obtain ⟨r_17, er_17, hE⟩ := cl_e hE
        refine gf_X5_123 C hW k_x0 er_17 dX5_addCastling_211 (fun k_r_17 => ?_)
        refine lv_iload C.1 C.2.1 dX5_addCastling_214 (lv_at hl 3 rfl) ?_
        refine lv_iload C.1 C.2.1 dX5_addCastling_216 (lv_at hl 0 rfl) ?_
        obtain ⟨g_18, hE⟩ := gd_e hE
        obtain ⟨h_19, eh_19, hE⟩ := nm_e2 hE
        refine y_iast C hW hZ k_r_17 g_18 eh_19 dX5_addCastling_218 (fun _ _ hW km hZ => ?_)
        replace hkm := hkm.tr km
        replace k_x0 := km.at k_x0 (by decide)
        obtain ⟨v_20, ev_20, hE⟩ := nm_e2 hE
        refine lv_iinc (v := v_20) (lv' := [(6, .int v_20), (7, .int v_11), (0, .ref x0), (3, .int x3)]) C.1 C.2.1 dX5_addCastling_219 hl (k := 3) rfl (by rw [ev_20]; rfl) (by decide) rfl (fun ls hl => ?_)
        refine lv_goto (tgt := 152) C.1 C.2.1 dX5_addCastling_222 (by decide) ?_
        exact hk_152 _ _ _ _ _ _ k_x0 hkm hW hZ _ (lv_sub hl [2, 3, 0] rfl) hE
set_option maxRecDepth 20000 in
theorem ct_X5_addCastling (l : Launch) (X : Ec) (F : Nat) {h : Hp} {x0 : Nat} {x1 : Int32} {x2 : Int32} {x3 : Int32} {o : Hp} (k_x0 : hK h x0 = 5) (hE : sX5_addCastling F h x0 x1 x2 x3 = some o) : MetV l yX5_addCastling cX5_addCastling 8 none 1 38 X [.ref x0, .int x1, .int x2, .int x3] h o := by
  refine x_met (by decide) (Nat.le_of_ble_eq_true rfl) ?_
  intro p e s m below meth c ls C hl hW hZ
  have hl : lv_has ls 8 [(0, .ref x0), (1, .int x1), (2, .int x2), (3, .int x3)] := hl
  have hkm : Km h h := Km.rf h
  refine lv_iconst (v := (1 : Int32)) C.1 C.2.1 dX5_addCastling_0 (by decide) ?_
  refine lv_aload_n C.1 C.2.1 dX5_addCastling_1 rfl (lv_at hl 0 rfl) ?_
  obtain ⟨r_1, er_1, hE⟩ := cl_e hE
  refine gf_X5_71 C hW k_x0 er_1 dX5_addCastling_2 (fun k_r_1 => ?_)
  refine gf_X5_78 C hW k_r_1 dX5_addCastling_5 ?_
  refine lv_isub C.1 C.2.1 dX5_addCastling_8 ?_
  obtain ⟨v_2, ev_2, hE⟩ := nm_e2 hE
  refine x_nmI ev_2 ?_
  refine lv_istore (lv' := [(4, .int v_2), (0, .ref x0), (1, .int x1), (2, .int x2), (3, .int x3)]) C.1 C.2.1 dX5_addCastling_9 hl (by decide) rfl (fun ls hl => ?_)
  refine lv_aload_n C.1 C.2.1 dX5_addCastling_11 rfl (lv_at hl 1 rfl) ?_
  refine lv_aload_n C.1 C.2.1 dX5_addCastling_12 rfl (lv_at hl 1 rfl) ?_
  obtain ⟨r_3, er_3, hE⟩ := cl_e hE
  refine gf_X5_71 C hW k_x0 er_3 dX5_addCastling_13 (fun k_r_3 => ?_)
  refine lv_iload_n C.1 C.2.1 dX5_addCastling_16 rfl (lv_at hl 2 rfl) ?_
  refine lv_iload_n C.1 C.2.1 dX5_addCastling_17 rfl (lv_at hl 3 rfl) ?_
  obtain ⟨o_4, eo_4, hE⟩ := cl_e hE
  refine x_kI (o := o_4) (z_runV (As := [.ref r_3, .int x1, .int x2]) (rest := []) C (ct_X5_nearest l X F k_x0 k_r_3 eo_4) cw_X5_197 hW hZ k_x0 (by decide) rfl rfl rfl hl.1 (Nat.le_of_ble_eq_true rfl) rfl dX5_addCastling_18 ⟨Nat.le_of_ble_eq_true rfl, Nat.le_of_ble_eq_true rfl⟩ ⟨Nat.le_refl _, Nat.le_refl _⟩) hZ (fun _ _ hW km hZ => ?_)
  replace hkm := hkm.tr km
  replace k_x0 := km.at k_x0 (by decide)
  refine lv_istore (lv' := [(5, .int o_4.1), (4, .int v_2), (0, .ref x0), (1, .int x1), (2, .int x2), (3, .int x3)]) C.1 C.2.1 dX5_addCastling_21 hl (by decide) rfl (fun ls hl => ?_)
  refine lv_iload C.1 C.2.1 dX5_addCastling_23 (lv_at hl 0 rfl) ?_
  refine lv_iconst (v := (-1 : Int32)) C.1 C.2.1 dX5_addCastling_25 (by decide) ?_
  refine lv_icmp_eq (tgt := 73) C.1 C.2.1 dX5_addCastling_26 (by decide) (fun c_5 => ?_) (fun c_5 => ?_)
  · have hE := br_p hE c_5
    exact bX5_addCastling_73 C hkm hW hZ _ (lv_sub hl [] rfl) hE
  · have hE := br_n hE c_5
    refine lv_iload C.1 C.2.1 dX5_addCastling_29 (lv_at hl 0 rfl) ?_
    refine lv_iload_n C.1 C.2.1 dX5_addCastling_31 rfl (lv_at hl 3 rfl) ?_
    refine lv_isub C.1 C.2.1 dX5_addCastling_32 ?_
    refine va_mabs C.1 C.2.1 (C.2.2.1.trans hl.1.symm) C.2.2.2.1 (C.2.2.2.2.1 _ m_1212) (C.2.2.2.2.1 _ m_1213) (C.2.2.2.2.1 _ m_3) (C.2.2.2.2.1 _ m_1214) (Nat.le_of_ble_eq_true rfl) (Nat.le_of_ble_eq_true rfl) (Nat.le_refl _) (Nat.le_refl _) dX5_addCastling_33 ?_
    refine lv_iconst (v := (3 : Int32)) C.1 C.2.1 dX5_addCastling_36 (by decide) ?_
    refine lv_icmp_lt (tgt := 73) C.1 C.2.1 dX5_addCastling_37 (by decide) (fun c_6 => ?_) (fun c_6 => ?_)
    · have hE := br_p hE c_6
      exact bX5_addCastling_73 C hkm hW hZ _ (lv_sub hl [] rfl) hE
    · have hE := br_n hE c_6
      refine lv_aload_n C.1 C.2.1 dX5_addCastling_40 rfl (lv_at hl 2 rfl) ?_
      obtain ⟨r_7, er_7, hE⟩ := cl_e hE
      refine gf_X5_71 C hW k_x0 er_7 dX5_addCastling_41 (fun k_r_7 => ?_)
      refine gf_X5_93 C hW k_r_7 dX5_addCastling_44 ?_
      refine lv_aload_n C.1 C.2.1 dX5_addCastling_47 rfl (lv_at hl 2 rfl) ?_
      obtain ⟨r_8, er_8, hE⟩ := cl_e hE
      refine gf_X5_71 C hW k_x0 er_8 dX5_addCastling_48 (fun k_r_8 => ?_)
      obtain ⟨r_9, er_9, hE⟩ := cl_e hE
      refine gf_X5_33 C hW k_r_8 er_9 dX5_addCastling_51 (fun k_r_9 => ?_)
      refine lv_aload_n C.1 C.2.1 dX5_addCastling_54 rfl (lv_at hl 2 rfl) ?_
      obtain ⟨r_10, er_10, hE⟩ := cl_e hE
      refine gf_X5_71 C hW k_x0 er_10 dX5_addCastling_55 (fun k_r_10 => ?_)
      refine gf_X5_78 C hW k_r_10 dX5_addCastling_58 ?_
      obtain ⟨g_11, hE⟩ := gd_e hE
      refine y_lald C hW k_r_9 g_11 dX5_addCastling_61 ?_
      refine lv_land C.1 C.2.1 dX5_addCastling_62 ?_
      refine lv_lconst (v := (1 : Int64)) C.1 C.2.1 dX5_addCastling_63 (by decide) ?_
      refine lv_iload C.1 C.2.1 dX5_addCastling_64 (lv_at hl 0 rfl) ?_
      refine lv_lshl C.1 C.2.1 dX5_addCastling_66 rfl ?_
      refine lv_land C.1 C.2.1 dX5_addCastling_67 ?_
      refine lv_lconst (v := (0 : Int64)) C.1 C.2.1 dX5_addCastling_68 (by decide) ?_
      refine W.lcmp C.1 C.2.1 dX5_addCastling_69 ?_
      refine lv_if_ne (tgt := 74) C.1 C.2.1 dX5_addCastling_70 (by decide) (fun c_12 => ?_) (fun c_12 => ?_)
      · have hE := br_n hE c_12
        refine lv_aload_n C.1 C.2.1 dX5_addCastling_74 rfl (lv_at hl 2 rfl) ?_
        refine lv_aload_n C.1 C.2.1 dX5_addCastling_75 rfl (lv_at hl 2 rfl) ?_
        obtain ⟨r_13, er_13, hE⟩ := cl_e hE
        refine gf_X5_71 C hW k_x0 er_13 dX5_addCastling_76 (fun k_r_13 => ?_)
        refine lv_iload_n C.1 C.2.1 dX5_addCastling_79 rfl (lv_at hl 3 rfl) ?_
        refine lv_iload C.1 C.2.1 dX5_addCastling_80 (lv_at hl 1 rfl) ?_
        obtain ⟨o_14, eo_14, hE⟩ := cl_e hE
        refine x_kI (o := o_14) (z_runV (As := [.ref r_13, .int x1, .int v_2]) (rest := []) C (ct_X5_isHit l X F k_x0 k_r_13 eo_14) cw_X5_63 hW hZ k_x0 (by decide) rfl rfl rfl hl.1 (Nat.le_of_ble_eq_true rfl) rfl dX5_addCastling_82 ⟨Nat.le_of_ble_eq_true rfl, Nat.le_of_ble_eq_true rfl⟩ ⟨Nat.le_refl _, Nat.le_refl _⟩) hZ (fun _ _ hW km hZ => ?_)
        replace hkm := hkm.tr km
        replace k_x0 := km.at k_x0 (by decide)
        refine lv_if_ne (tgt := 122) C.1 C.2.1 dX5_addCastling_85 (by decide) (fun c_15 => ?_) (fun c_15 => ?_)
        · have hE := br_n hE c_15
          exact bX5_addCastling_122 C hkm hW hZ _ (lv_sub hl [] rfl) hE
        · have hE := br_p hE c_15
          refine lv_aload_n C.1 C.2.1 dX5_addCastling_88 rfl (lv_at hl 2 rfl) ?_
          refine lv_aload_n C.1 C.2.1 dX5_addCastling_89 rfl (lv_at hl 2 rfl) ?_
          obtain ⟨r_16, er_16, hE⟩ := cl_e hE
          refine gf_X5_71 C hW k_x0 er_16 dX5_addCastling_90 (fun k_r_16 => ?_)
          refine lv_iload_n C.1 C.2.1 dX5_addCastling_93 rfl (lv_at hl 3 rfl) ?_
          refine lv_iload_n C.1 C.2.1 dX5_addCastling_94 rfl (lv_at hl 4 rfl) ?_
          refine lv_iadd C.1 C.2.1 dX5_addCastling_95 ?_
          refine lv_iload C.1 C.2.1 dX5_addCastling_96 (lv_at hl 1 rfl) ?_
          obtain ⟨o_17, eo_17, hE⟩ := cl_e hE
          refine x_kI (o := o_17) (z_runV (As := [.ref r_16, .int (x1 + x2), .int v_2]) (rest := []) C (ct_X5_isHit l X F k_x0 k_r_16 eo_17) cw_X5_63 hW hZ k_x0 (by decide) rfl rfl rfl hl.1 (Nat.le_of_ble_eq_true rfl) rfl dX5_addCastling_98 ⟨Nat.le_of_ble_eq_true rfl, Nat.le_of_ble_eq_true rfl⟩ ⟨Nat.le_refl _, Nat.le_refl _⟩) hZ (fun _ _ hW km hZ => ?_)
          replace hkm := hkm.tr km
          replace k_x0 := km.at k_x0 (by decide)
          refine lv_if_ne (tgt := 122) C.1 C.2.1 dX5_addCastling_101 (by decide) (fun c_18 => ?_) (fun c_18 => ?_)
          · have hE := br_n hE c_18
            exact bX5_addCastling_122 C hkm hW hZ _ (lv_sub hl [] rfl) hE
          · have hE := br_p hE c_18
            refine lv_aload_n C.1 C.2.1 dX5_addCastling_104 rfl (lv_at hl 2 rfl) ?_
            refine lv_aload_n C.1 C.2.1 dX5_addCastling_105 rfl (lv_at hl 2 rfl) ?_
            obtain ⟨r_19, er_19, hE⟩ := cl_e hE
            refine gf_X5_71 C hW k_x0 er_19 dX5_addCastling_106 (fun k_r_19 => ?_)
            refine lv_iload_n C.1 C.2.1 dX5_addCastling_109 rfl (lv_at hl 3 rfl) ?_
            refine lv_iconst (v := (2 : Int32)) C.1 C.2.1 dX5_addCastling_110 (by decide) ?_
            refine lv_iload_n C.1 C.2.1 dX5_addCastling_111 rfl (lv_at hl 4 rfl) ?_
            refine lv_imul C.1 C.2.1 dX5_addCastling_112 ?_
            refine lv_iadd C.1 C.2.1 dX5_addCastling_113 ?_
            refine lv_iload C.1 C.2.1 dX5_addCastling_114 (lv_at hl 1 rfl) ?_
            obtain ⟨o_20, eo_20, hE⟩ := cl_e hE
            refine x_kI (o := o_20) (z_runV (As := [.ref r_19, .int (x1 + ((2 : Int32) * x2)), .int v_2]) (rest := []) C (ct_X5_isHit l X F k_x0 k_r_19 eo_20) cw_X5_63 hW hZ k_x0 (by decide) rfl rfl rfl hl.1 (Nat.le_of_ble_eq_true rfl) rfl dX5_addCastling_116 ⟨Nat.le_of_ble_eq_true rfl, Nat.le_of_ble_eq_true rfl⟩ ⟨Nat.le_refl _, Nat.le_refl _⟩) hZ (fun _ _ hW km hZ => ?_)
            replace hkm := hkm.tr km
            replace k_x0 := km.at k_x0 (by decide)
            refine lv_if_eq (tgt := 123) C.1 C.2.1 dX5_addCastling_119 (by decide) (fun c_21 => ?_) (fun c_21 => ?_)
            · have hE := br_p hE c_21
              refine lv_aload_n C.1 C.2.1 dX5_addCastling_123 rfl (lv_at hl 2 rfl) ?_
              refine lv_iload_n C.1 C.2.1 dX5_addCastling_124 rfl (lv_at hl 3 rfl) ?_
              refine lv_iload_n C.1 C.2.1 dX5_addCastling_125 rfl (lv_at hl 3 rfl) ?_
              refine lv_iconst (v := (2 : Int32)) C.1 C.2.1 dX5_addCastling_126 (by decide) ?_
              refine lv_iload_n C.1 C.2.1 dX5_addCastling_127 rfl (lv_at hl 4 rfl) ?_
              refine lv_imul C.1 C.2.1 dX5_addCastling_128 ?_
              refine lv_iadd C.1 C.2.1 dX5_addCastling_129 ?_
              refine lv_aload_n C.1 C.2.1 dX5_addCastling_130 rfl (lv_at hl 2 rfl) ?_
              obtain ⟨r_22, er_22, hE⟩ := cl_e hE
              refine gf_X5_22 C hW k_x0 er_22 dX5_addCastling_131 (fun k_r_22 => ?_)
              refine gf_X5_129 C hW k_r_22 dX5_addCastling_134 ?_
              refine lv_iconst (v := (2 : Int32)) C.1 C.2.1 dX5_addCastling_137 (by decide) ?_
              obtain ⟨o_23, eo_23, hE⟩ := cl_e hE
              refine x_kI (o := o_23) (z_runS (As := [.int x1, .int (x1 + ((2 : Int32) * x2)), .int (hI o_20.2 r_22 4), .int (2 : Int32)]) (rest := [.ref x0]) C (ct_X5_plainMove l X eo_23) cw_X5_176 hW hZ rfl hl.1 (Nat.le_of_ble_eq_true rfl) rfl dX5_addCastling_138 ⟨Nat.le_of_ble_eq_true rfl, Nat.le_of_ble_eq_true rfl⟩ ⟨Nat.le_refl _, Nat.le_refl _⟩) hZ (fun _ _ hW km hZ => ?_)
              replace hkm := hkm.tr km
              replace k_x0 := km.at k_x0 (by decide)
              obtain ⟨o_24, eo_24, hE⟩ := cl_e hE
              refine x_kV (o := o_24) (z_runV (As := [.int o_23.1]) (rest := []) C (ct_X5_addMove l X k_x0 eo_24) cw_X5_170 hW hZ k_x0 (by decide) rfl rfl rfl hl.1 (Nat.le_of_ble_eq_true rfl) rfl dX5_addCastling_141 ⟨Nat.le_of_ble_eq_true rfl, Nat.le_of_ble_eq_true rfl⟩ ⟨Nat.le_refl _, Nat.le_refl _⟩) hZ (fun _ _ hW km hZ => ?_)
              replace hkm := hkm.tr km
              replace k_x0 := km.at k_x0 (by decide)
              refine lv_aload_n C.1 C.2.1 dX5_addCastling_144 rfl (lv_at hl 2 rfl) ?_
              refine gf_X5_82 C hW k_x0 dX5_addCastling_145 ?_
              refine lv_iconst (v := (1 : Int32)) C.1 C.2.1 dX5_addCastling_148 (by decide) ?_
              refine lv_isub C.1 C.2.1 dX5_addCastling_149 ?_
              obtain ⟨v_25, ev_25, hE⟩ := nm_e2 hE
              refine x_nmI ev_25 ?_
              refine lv_istore (lv' := [(6, .int v_25), (5, .int o_4.1), (4, .int v_2), (0, .ref x0), (1, .int x1), (2, .int x2), (3, .int x3)]) C.1 C.2.1 dX5_addCastling_150 hl (by decide) rfl (fun ls hl => ?_)
              exact bX5_addCastling_152 C F k_x0 hkm hW hZ _ (lv_sub hl [3, 6, 0] rfl) hE
            · have hE := br_n hE c_21
              exact bX5_addCastling_122 C hkm hW hZ _ (lv_sub hl [] rfl) hE
      · have hE := br_p hE c_12
        exact bX5_addCastling_73 C hkm hW hZ _ (lv_sub hl [] rfl) hE
theorem dX5_kindOf_0 : decode cX5_kindOf 0 = .ok (.iload_n 0, 1) := by decide +kernel
theorem dX5_kindOf_1 : decode cX5_kindOf 1 = .ok (.bipush 24, 2) := by decide +kernel
theorem dX5_kindOf_3 : decode cX5_kindOf 3 = .ok (.ishr, 1) := by decide +kernel
theorem dX5_kindOf_4 : decode cX5_kindOf 4 = .ok (.iconst 3, 1) := by decide +kernel
theorem dX5_kindOf_5 : decode cX5_kindOf 5 = .ok (.iand, 1) := by decide +kernel
theorem dX5_kindOf_6 : decode cX5_kindOf 6 = .ok (.ireturn, 1) := by decide +kernel
set_option maxRecDepth 20000 in
theorem moX5_kindOf {o : Int32 × Hp} {h : Hp} {x0 : Int32} (hE : sX5_kindOf h x0 = some o) : Le h o.2 := by
  exact le_some2 hE
set_option maxRecDepth 20000 in
theorem ct_X5_kindOf (l : Launch) (X : Ec) {h : Hp} {x0 : Int32} {o : Int32 × Hp} (hE : sX5_kindOf h x0 = some o) : MetI l yX5_kindOf cX5_kindOf 1 (some .int) 0 0 X [.int x0] h o := by
  refine x_met (by decide) (Nat.le_of_ble_eq_true rfl) ?_
  intro p e s m below meth c ls C hl hW hZ
  have hl : lv_has ls 1 [(0, .int x0)] := hl
  have hkm : Km h h := Km.rf h
  refine lv_iload_n C.1 C.2.1 dX5_kindOf_0 rfl (lv_at hl 0 rfl) ?_
  refine lv_bipush (v := (24 : Int32)) C.1 C.2.1 dX5_kindOf_1 (by decide) ?_
  refine lv_ishr C.1 C.2.1 dX5_kindOf_3 ?_
  refine lv_iconst (v := (3 : Int32)) C.1 C.2.1 dX5_kindOf_4 (by decide) ?_
  refine lv_iand C.1 C.2.1 dX5_kindOf_5 ?_
  exact x_iret C rfl rfl hW hZ hkm hE dX5_kindOf_6
theorem dX5_leftBy_0 : decode cX5_leftBy 0 = .ok (.iload_n 0, 1) := by decide +kernel
theorem dX5_leftBy_1 : decode cX5_leftBy 1 = .ok (.bipush 6, 2) := by decide +kernel
theorem dX5_leftBy_3 : decode cX5_leftBy 3 = .ok (.ishr, 1) := by decide +kernel
theorem dX5_leftBy_4 : decode cX5_leftBy 4 = .ok (.bipush 63, 2) := by decide +kernel
theorem dX5_leftBy_6 : decode cX5_leftBy 6 = .ok (.iand, 1) := by decide +kernel
theorem dX5_leftBy_7 : decode cX5_leftBy 7 = .ok (.ireturn, 1) := by decide +kernel
set_option maxRecDepth 20000 in
theorem moX5_leftBy {o : Int32 × Hp} {h : Hp} {x0 : Int32} (hE : sX5_leftBy h x0 = some o) : Le h o.2 := by
  exact le_some2 hE
set_option maxRecDepth 20000 in
theorem ct_X5_leftBy (l : Launch) (X : Ec) {h : Hp} {x0 : Int32} {o : Int32 × Hp} (hE : sX5_leftBy h x0 = some o) : MetI l yX5_leftBy cX5_leftBy 1 (some .int) 0 0 X [.int x0] h o := by
  refine x_met (by decide) (Nat.le_of_ble_eq_true rfl) ?_
  intro p e s m below meth c ls C hl hW hZ
  have hl : lv_has ls 1 [(0, .int x0)] := hl
  have hkm : Km h h := Km.rf h
  refine lv_iload_n C.1 C.2.1 dX5_leftBy_0 rfl (lv_at hl 0 rfl) ?_
  refine lv_bipush (v := (6 : Int32)) C.1 C.2.1 dX5_leftBy_1 (by decide) ?_
  refine lv_ishr C.1 C.2.1 dX5_leftBy_3 ?_
  refine lv_bipush (v := (63 : Int32)) C.1 C.2.1 dX5_leftBy_4 (by decide) ?_
  refine lv_iand C.1 C.2.1 dX5_leftBy_6 ?_
  exact x_iret C rfl rfl hW hZ hkm hE dX5_leftBy_7
set_option maxRecDepth 100000 in
theorem m_1223 : Cond.methodLink RX5 233 yX5_kindOf ∈ W0 := w0_in (List.mem_append_right _ (List.mem_of_getElem? (i := 1223) rfl)) rfl
set_option maxRecDepth 100000 in
theorem m_1224 : Cond.static yX5_kindOf ∈ W0 := w0_in (List.mem_append_right _ (List.mem_of_getElem? (i := 1224) rfl)) rfl
set_option maxRecDepth 100000 in
theorem m_1225 : Cond.code yX5_kindOf cX5_kindOf 1 (some .int) ∈ W0 := w0_in (List.mem_append_right _ (List.mem_of_getElem? (i := 1225) rfl)) rfl
set_option maxRecDepth 100000 in
theorem m_1226 : Cond.methodLink RX5 236 yX5_leftBy ∈ W0 := w0_in (List.mem_append_right _ (List.mem_of_getElem? (i := 1226) rfl)) rfl
set_option maxRecDepth 100000 in
theorem m_1227 : Cond.static yX5_leftBy ∈ W0 := w0_in (List.mem_append_right _ (List.mem_of_getElem? (i := 1227) rfl)) rfl
set_option maxRecDepth 100000 in
theorem m_1228 : Cond.code yX5_leftBy cX5_leftBy 1 (some .int) ∈ W0 := w0_in (List.mem_append_right _ (List.mem_of_getElem? (i := 1228) rfl)) rfl
theorem cw_X5_233 : cwd RX5 233 yX5_kindOf cX5_kindOf 1 (some .int) true 1 := ⟨m_1225, m_1223, m_7, m_1224, by decide, by decide, by decide +kernel⟩
theorem cw_X5_236 : cwd RX5 236 yX5_leftBy cX5_leftBy 1 (some .int) true 1 := ⟨m_1228, m_1226, m_7, m_1227, by decide, by decide, by decide +kernel⟩
theorem dX5_isSafe_0 : decode cX5_isSafe 0 = .ok (.iload_n 1, 1) := by decide +kernel
theorem dX5_isSafe_1 : decode cX5_isSafe 1 = .ok (.invokestatic 233, 3) := by decide +kernel
theorem dX5_isSafe_4 : decode cX5_isSafe 4 = .ok (.istore_n 2, 1) := by decide +kernel
theorem dX5_isSafe_5 : decode cX5_isSafe 5 = .ok (.aload_n 0, 1) := by decide +kernel
theorem dX5_isSafe_6 : decode cX5_isSafe 6 = .ok (.getfield 132, 3) := by decide +kernel
theorem dX5_isSafe_9 : decode cX5_isSafe 9 = .ok (.ifCond .eq 22, 3) := by decide +kernel
theorem dX5_isSafe_12 : decode cX5_isSafe 12 = .ok (.iload_n 2, 1) := by decide +kernel
theorem dX5_isSafe_13 : decode cX5_isSafe 13 = .ok (.iconst 2, 1) := by decide +kernel
theorem dX5_isSafe_14 : decode cX5_isSafe 14 = .ok (.if_icmp .eq 17, 3) := by decide +kernel
theorem dX5_isSafe_17 : decode cX5_isSafe 17 = .ok (.iload_n 1, 1) := by decide +kernel
theorem dX5_isSafe_18 : decode cX5_isSafe 18 = .ok (.invokestatic 194, 3) := by decide +kernel
theorem dX5_isSafe_21 : decode cX5_isSafe 21 = .ok (.aload_n 0, 1) := by decide +kernel
theorem dX5_isSafe_22 : decode cX5_isSafe 22 = .ok (.getfield 22, 3) := by decide +kernel
theorem dX5_isSafe_25 : decode cX5_isSafe 25 = .ok (.getfield 129, 3) := by decide +kernel
theorem dX5_isSafe_28 : decode cX5_isSafe 28 = .ok (.if_icmp .ne 5, 3) := by decide +kernel
theorem dX5_isSafe_31 : decode cX5_isSafe 31 = .ok (.iconst 0, 1) := by decide +kernel
theorem dX5_isSafe_32 : decode cX5_isSafe 32 = .ok (.ireturn, 1) := by decide +kernel
theorem dX5_isSafe_33 : decode cX5_isSafe 33 = .ok (.lconst 1, 1) := by decide +kernel
theorem dX5_isSafe_34 : decode cX5_isSafe 34 = .ok (.iload_n 1, 1) := by decide +kernel
theorem dX5_isSafe_35 : decode cX5_isSafe 35 = .ok (.invokestatic 184, 3) := by decide +kernel
theorem dX5_isSafe_38 : decode cX5_isSafe 38 = .ok (.lshl, 1) := by decide +kernel
theorem dX5_isSafe_39 : decode cX5_isSafe 39 = .ok (.lstore_n 3, 1) := by decide +kernel
theorem dX5_isSafe_40 : decode cX5_isSafe 40 = .ok (.iload_n 2, 1) := by decide +kernel
theorem dX5_isSafe_41 : decode cX5_isSafe 41 = .ok (.iconst 3, 1) := by decide +kernel
theorem dX5_isSafe_42 : decode cX5_isSafe 42 = .ok (.if_icmp .eq 12, 3) := by decide +kernel
theorem dX5_isSafe_45 : decode cX5_isSafe 45 = .ok (.lload_n 3, 1) := by decide +kernel
theorem dX5_isSafe_46 : decode cX5_isSafe 46 = .ok (.lconst 1, 1) := by decide +kernel
theorem dX5_isSafe_47 : decode cX5_isSafe 47 = .ok (.iload_n 1, 1) := by decide +kernel
theorem dX5_isSafe_48 : decode cX5_isSafe 48 = .ok (.invokestatic 236, 3) := by decide +kernel
theorem dX5_isSafe_51 : decode cX5_isSafe 51 = .ok (.lshl, 1) := by decide +kernel
theorem dX5_isSafe_52 : decode cX5_isSafe 52 = .ok (.lor, 1) := by decide +kernel
theorem dX5_isSafe_53 : decode cX5_isSafe 53 = .ok (.lstore_n 3, 1) := by decide +kernel
theorem dX5_isSafe_54 : decode cX5_isSafe 54 = .ok (.iload_n 2, 1) := by decide +kernel
theorem dX5_isSafe_55 : decode cX5_isSafe 55 = .ok (.iconst 1, 1) := by decide +kernel
theorem dX5_isSafe_56 : decode cX5_isSafe 56 = .ok (.if_icmp .ne 16, 3) := by decide +kernel
theorem dX5_isSafe_59 : decode cX5_isSafe 59 = .ok (.lload_n 3, 1) := by decide +kernel
theorem dX5_isSafe_60 : decode cX5_isSafe 60 = .ok (.lconst 1, 1) := by decide +kernel
theorem dX5_isSafe_61 : decode cX5_isSafe 61 = .ok (.aload_n 0, 1) := by decide +kernel
theorem dX5_isSafe_62 : decode cX5_isSafe 62 = .ok (.getfield 71, 3) := by decide +kernel
theorem dX5_isSafe_65 : decode cX5_isSafe 65 = .ok (.iconst 0, 1) := by decide +kernel
theorem dX5_isSafe_66 : decode cX5_isSafe 66 = .ok (.invokevirtual 173, 3) := by decide +kernel
theorem dX5_isSafe_69 : decode cX5_isSafe 69 = .ok (.lshl, 1) := by decide +kernel
theorem dX5_isSafe_70 : decode cX5_isSafe 70 = .ok (.lor, 1) := by decide +kernel
theorem dX5_isSafe_71 : decode cX5_isSafe 71 = .ok (.lstore_n 3, 1) := by decide +kernel
theorem dX5_isSafe_72 : decode cX5_isSafe 72 = .ok (.lload_n 3, 1) := by decide +kernel
theorem dX5_isSafe_73 : decode cX5_isSafe 73 = .ok (.aload_n 0, 1) := by decide +kernel
theorem dX5_isSafe_74 : decode cX5_isSafe 74 = .ok (.getfield 126, 3) := by decide +kernel
theorem dX5_isSafe_77 : decode cX5_isSafe 77 = .ok (.land, 1) := by decide +kernel
theorem dX5_isSafe_78 : decode cX5_isSafe 78 = .ok (.lconst 0, 1) := by decide +kernel
theorem dX5_isSafe_79 : decode cX5_isSafe 79 = .ok (.lcmp, 1) := by decide +kernel
theorem dX5_isSafe_80 : decode cX5_isSafe 80 = .ok (.ifCond .ne 7, 3) := by decide +kernel
theorem dX5_isSafe_83 : decode cX5_isSafe 83 = .ok (.iconst 1, 1) := by decide +kernel
theorem dX5_isSafe_84 : decode cX5_isSafe 84 = .ok (.goto 4, 3) := by decide +kernel
theorem dX5_isSafe_87 : decode cX5_isSafe 87 = .ok (.iconst 0, 1) := by decide +kernel
theorem dX5_isSafe_88 : decode cX5_isSafe 88 = .ok (.ireturn, 1) := by decide +kernel
set_option maxRecDepth 20000 in
theorem moX5_isSafe_31 {o : Int32 × Hp} {h : Hp} (hE : sX5_isSafe_31 h  = some o) : Le h o.2 := by
  exact le_some2 hE
set_option maxRecDepth 20000 in
theorem moX5_isSafe_88 {o : Int32 × Hp} {h : Hp} {t0 : Int32} (hE : sX5_isSafe_88 h  t0 = some o) : Le h o.2 := by
  obtain ⟨g_1, hE⟩ := gd_e hE
  exact le_some2 hE
set_option maxRecDepth 20000 in
theorem moX5_isSafe_72 {o : Int32 × Hp} {h : Hp} {x0 : Nat} {x3 : Int64} (hE : sX5_isSafe_72 h x0 x3 = some o) : Le h o.2 := by
  rcases br_e hE with ⟨_, hE⟩ | ⟨_, hE⟩
  · exact moX5_isSafe_88 hE
  · exact moX5_isSafe_88 hE
set_option maxRecDepth 20000 in
theorem moX5_isSafe_54 {o : Int32 × Hp} {h : Hp} {x0 : Nat} {x2 : Int32} {x3 : Int64} (hE : sX5_isSafe_54 h x0 x2 x3 = some o) : Le h o.2 := by
  rcases br_e hE with ⟨_, hE⟩ | ⟨_, hE⟩
  · obtain ⟨r_2, er_2, hE⟩ := cl_e hE
    obtain ⟨o_3, eo_3, hE⟩ := cl_e hE
    refine (moX3_passSquare eo_3).tr ?_
    obtain ⟨v_4, ev_4, hE⟩ := nm_e2 hE
    exact moX5_isSafe_72 hE
  · exact moX5_isSafe_72 hE
set_option maxRecDepth 20000 in
theorem moX5_isSafe {o : Int32 × Hp} {h : Hp} {x0 : Nat} {x1 : Int32} (hE : sX5_isSafe h x0 x1 = some o) : Le h o.2 := by
  obtain ⟨o_1, eo_1, hE⟩ := cl_e hE
  refine (moX5_kindOf eo_1).tr ?_
  rcases br_e hE with ⟨_, hE⟩ | ⟨_, hE⟩
  · exact moX5_isSafe_31 hE
  · rcases br_e hE with ⟨_, hE⟩ | ⟨_, hE⟩
    · exact moX5_isSafe_31 hE
    · obtain ⟨o_4, eo_4, hE⟩ := cl_e hE
      refine (moX5_manOf eo_4).tr ?_
      obtain ⟨r_5, er_5, hE⟩ := cl_e hE
      rcases br_e hE with ⟨_, hE⟩ | ⟨_, hE⟩
      · exact moX5_isSafe_31 hE
      · obtain ⟨o_7, eo_7, hE⟩ := cl_e hE
        refine (moX5_comeTo eo_7).tr ?_
        obtain ⟨v_8, ev_8, hE⟩ := nm_e2 hE
        rcases br_e hE with ⟨_, hE⟩ | ⟨_, hE⟩
        · exact moX5_isSafe_54 hE
        · obtain ⟨o_10, eo_10, hE⟩ := cl_e hE
          refine (moX5_leftBy eo_10).tr ?_
          obtain ⟨v_11, ev_11, hE⟩ := nm_e2 hE
          exact moX5_isSafe_54 hE
set_option maxRecDepth 20000 in
theorem bX5_isSafe_31 {p : Program} {l : Launch} {e : Env} {s : State} {m : MethodId} {args : Array Value} {below : List Frame} {meth : Method} {c : Code} {X : Ec} {h0 : Hp} {o : Int32 × Hp} (C : Cx X p s m args meth c RX5 cX5_isSafe 5 (some .boolean) "isSafe") {h : Hp} {H : Heap} {locs : List Loc} (hkm : Km h0 h) (hW : Wx X h H) (hZ : va_S (aA (eB X)) s.heap H locs) (ls : Array Slot) (hl : lv_has ls 5 []) (hE : sX5_isSafe_31 h  = some o) : W p l e (rm 1 21) s m args below meth c H locs 0 0 (MQ below (QI X h0 o.1 o.2) args s 0 0 (aA (eB X))) (F0 m 31 ls []) := by
  refine lv_iconst (v := (0 : Int32)) C.1 C.2.1 dX5_isSafe_31 (by decide) ?_
  exact x_iret C rfl (by decide) hW hZ hkm hE dX5_isSafe_32
set_option maxRecDepth 20000 in
theorem bX5_isSafe_88 {p : Program} {l : Launch} {e : Env} {s : State} {m : MethodId} {args : Array Value} {below : List Frame} {meth : Method} {c : Code} {X : Ec} {h0 : Hp} {o : Int32 × Hp} (C : Cx X p s m args meth c RX5 cX5_isSafe 5 (some .boolean) "isSafe") {h : Hp} {t0 : Int32} {H : Heap} {locs : List Loc} (hkm : Km h0 h) (hW : Wx X h H) (hZ : va_S (aA (eB X)) s.heap H locs) (ls : Array Slot) (hl : lv_has ls 5 []) (hE : sX5_isSafe_88 h  t0 = some o) : W p l e (rm 1 21) s m args below meth c H locs 0 0 (MQ below (QI X h0 o.1 o.2) args s 0 0 (aA (eB X))) (F0 m 88 ls [.int t0]) := by
  obtain ⟨g_1, hE⟩ := gd_e hE
  exact x_iret C rfl (narB g_1) hW hZ hkm hE dX5_isSafe_88
set_option maxRecDepth 20000 in
theorem bX5_isSafe_72 {p : Program} {l : Launch} {e : Env} {s : State} {m : MethodId} {args : Array Value} {below : List Frame} {meth : Method} {c : Code} {X : Ec} {h0 : Hp} {o : Int32 × Hp} (C : Cx X p s m args meth c RX5 cX5_isSafe 5 (some .boolean) "isSafe") {h : Hp} {x0 : Nat} {x3 : Int64} {H : Heap} {locs : List Loc} (k_x0 : hK h x0 = 5) (hkm : Km h0 h) (hW : Wx X h H) (hZ : va_S (aA (eB X)) s.heap H locs) (ls : Array Slot) (hl : lv_has ls 5 [(0, .ref x0), (3, .long x3)]) (hE : sX5_isSafe_72 h x0 x3 = some o) : W p l e (rm 1 21) s m args below meth c H locs 0 0 (MQ below (QI X h0 o.1 o.2) args s 0 0 (aA (eB X))) (F0 m 72 ls []) := by
  refine lv_lload_n C.1 C.2.1 dX5_isSafe_72 rfl (lv_at hl 1 rfl) ?_
  refine lv_aload_n C.1 C.2.1 dX5_isSafe_73 rfl (lv_at hl 0 rfl) ?_
  refine gf_X5_126 C hW k_x0 dX5_isSafe_74 ?_
  refine lv_land C.1 C.2.1 dX5_isSafe_77 ?_
  refine lv_lconst (v := (0 : Int64)) C.1 C.2.1 dX5_isSafe_78 (by decide) ?_
  refine W.lcmp C.1 C.2.1 dX5_isSafe_79 ?_
  refine lv_if_ne (tgt := 87) C.1 C.2.1 dX5_isSafe_80 (by decide) (fun c_1 => ?_) (fun c_1 => ?_)
  · have hE := br_n hE c_1
    refine lv_iconst (v := (0 : Int32)) C.1 C.2.1 dX5_isSafe_87 (by decide) ?_
    exact bX5_isSafe_88 C hkm hW hZ _ (lv_sub hl [] rfl) hE
  · have hE := br_p hE c_1
    refine lv_iconst (v := (1 : Int32)) C.1 C.2.1 dX5_isSafe_83 (by decide) ?_
    refine lv_goto (tgt := 88) C.1 C.2.1 dX5_isSafe_84 (by decide) ?_
    exact bX5_isSafe_88 C hkm hW hZ _ (lv_sub hl [] rfl) hE
set_option maxRecDepth 20000 in
theorem bX5_isSafe_54 {p : Program} {l : Launch} {e : Env} {s : State} {m : MethodId} {args : Array Value} {below : List Frame} {meth : Method} {c : Code} {X : Ec} {h0 : Hp} {o : Int32 × Hp} (C : Cx X p s m args meth c RX5 cX5_isSafe 5 (some .boolean) "isSafe") {h : Hp} {x0 : Nat} {x2 : Int32} {x3 : Int64} {H : Heap} {locs : List Loc} (k_x0 : hK h x0 = 5) (hkm : Km h0 h) (hW : Wx X h H) (hZ : va_S (aA (eB X)) s.heap H locs) (ls : Array Slot) (hl : lv_has ls 5 [(0, .ref x0), (2, .int x2), (3, .long x3)]) (hE : sX5_isSafe_54 h x0 x2 x3 = some o) : W p l e (rm 1 21) s m args below meth c H locs 0 0 (MQ below (QI X h0 o.1 o.2) args s 0 0 (aA (eB X))) (F0 m 54 ls []) := by
  refine lv_iload_n C.1 C.2.1 dX5_isSafe_54 rfl (lv_at hl 1 rfl) ?_
  refine lv_iconst (v := (1 : Int32)) C.1 C.2.1 dX5_isSafe_55 (by decide) ?_
  refine lv_icmp_ne (tgt := 72) C.1 C.2.1 dX5_isSafe_56 (by decide) (fun c_1 => ?_) (fun c_1 => ?_)
  · have hE := br_n hE c_1
    exact bX5_isSafe_72 C k_x0 hkm hW hZ _ (lv_sub hl [0, 2] rfl) hE
  · have hE := br_p hE c_1
    refine lv_lload_n C.1 C.2.1 dX5_isSafe_59 rfl (lv_at hl 2 rfl) ?_
    refine lv_lconst (v := (1 : Int64)) C.1 C.2.1 dX5_isSafe_60 (by decide) ?_
    refine lv_aload_n C.1 C.2.1 dX5_isSafe_61 rfl (lv_at hl 0 rfl) ?_
    obtain ⟨r_2, er_2, hE⟩ := cl_e hE
    refine gf_X5_71 C hW k_x0 er_2 dX5_isSafe_62 (fun k_r_2 => ?_)
    refine lv_iconst (v := (0 : Int32)) C.1 C.2.1 dX5_isSafe_65 (by decide) ?_
    obtain ⟨o_3, eo_3, hE⟩ := cl_e hE
    refine x_kI (o := o_3) (z_runV (As := [.int (0 : Int32)]) (rest := [.long (1 : Int64), .long x3]) C (ct_X3_passSquare l X k_r_2 eo_3) cw_X5_173 hW hZ k_r_2 (by decide) rfl rfl rfl hl.1 (Nat.le_of_ble_eq_true rfl) rfl dX5_isSafe_66 ⟨Nat.le_of_ble_eq_true rfl, Nat.le_of_ble_eq_true rfl⟩ ⟨Nat.le_refl _, Nat.le_refl _⟩) hZ (fun _ _ hW km hZ => ?_)
    replace hkm := hkm.tr km
    replace k_x0 := km.at k_x0 (by decide)
    refine lv_lshl C.1 C.2.1 dX5_isSafe_69 rfl ?_
    refine lv_lor C.1 C.2.1 dX5_isSafe_70 ?_
    obtain ⟨v_4, ev_4, hE⟩ := nm_e2 hE
    refine x_nmJ ev_4 ?_
    refine lv_lstore_n (lv' := [(3, .long v_4), (0, .ref x0), (2, .int x2)]) C.1 C.2.1 dX5_isSafe_71 rfl hl (by decide) rfl (fun ls hl => ?_)
    exact bX5_isSafe_72 C k_x0 hkm hW hZ _ (lv_sub hl [1, 0] rfl) hE
set_option maxRecDepth 20000 in
theorem ct_X5_isSafe (l : Launch) (X : Ec) {h : Hp} {x0 : Nat} {x1 : Int32} {o : Int32 × Hp} (k_x0 : hK h x0 = 5) (hE : sX5_isSafe h x0 x1 = some o) : MetI l yX5_isSafe cX5_isSafe 5 (some .boolean) 1 21 X [.ref x0, .int x1] h o := by
  refine x_met (by decide) (Nat.le_of_ble_eq_true rfl) ?_
  intro p e s m below meth c ls C hl hW hZ
  have hl : lv_has ls 5 [(0, .ref x0), (1, .int x1)] := hl
  have hkm : Km h h := Km.rf h
  refine lv_iload_n C.1 C.2.1 dX5_isSafe_0 rfl (lv_at hl 1 rfl) ?_
  obtain ⟨o_1, eo_1, hE⟩ := cl_e hE
  refine x_kI (o := o_1) (z_runS (As := [.int x1]) (rest := []) C (ct_X5_kindOf l X eo_1) cw_X5_233 hW hZ rfl hl.1 (Nat.le_of_ble_eq_true rfl) rfl dX5_isSafe_1 ⟨Nat.le_of_ble_eq_true rfl, Nat.le_of_ble_eq_true rfl⟩ ⟨Nat.le_refl _, Nat.le_refl _⟩) hZ (fun _ _ hW km hZ => ?_)
  replace hkm := hkm.tr km
  replace k_x0 := km.at k_x0 (by decide)
  refine lv_istore_n (lv' := [(2, .int o_1.1), (0, .ref x0), (1, .int x1)]) C.1 C.2.1 dX5_isSafe_4 rfl hl (by decide) rfl (fun ls hl => ?_)
  refine lv_aload_n C.1 C.2.1 dX5_isSafe_5 rfl (lv_at hl 1 rfl) ?_
  refine gf_X5_132 C hW k_x0 dX5_isSafe_6 ?_
  refine lv_if_eq (tgt := 31) C.1 C.2.1 dX5_isSafe_9 (by decide) (fun c_2 => ?_) (fun c_2 => ?_)
  · have hE := br_p hE c_2
    exact bX5_isSafe_31 C hkm hW hZ _ (lv_sub hl [] rfl) hE
  · have hE := br_n hE c_2
    refine lv_iload_n C.1 C.2.1 dX5_isSafe_12 rfl (lv_at hl 0 rfl) ?_
    refine lv_iconst (v := (2 : Int32)) C.1 C.2.1 dX5_isSafe_13 (by decide) ?_
    refine lv_icmp_eq (tgt := 31) C.1 C.2.1 dX5_isSafe_14 (by decide) (fun c_3 => ?_) (fun c_3 => ?_)
    · have hE := br_p hE c_3
      exact bX5_isSafe_31 C hkm hW hZ _ (lv_sub hl [] rfl) hE
    · have hE := br_n hE c_3
      refine lv_iload_n C.1 C.2.1 dX5_isSafe_17 rfl (lv_at hl 2 rfl) ?_
      obtain ⟨o_4, eo_4, hE⟩ := cl_e hE
      refine x_kI (o := o_4) (z_runS (As := [.int x1]) (rest := []) C (ct_X5_manOf l X eo_4) cw_X5_194 hW hZ rfl hl.1 (Nat.le_of_ble_eq_true rfl) rfl dX5_isSafe_18 ⟨Nat.le_of_ble_eq_true rfl, Nat.le_of_ble_eq_true rfl⟩ ⟨Nat.le_refl _, Nat.le_refl _⟩) hZ (fun _ _ hW km hZ => ?_)
      replace hkm := hkm.tr km
      replace k_x0 := km.at k_x0 (by decide)
      refine lv_aload_n C.1 C.2.1 dX5_isSafe_21 rfl (lv_at hl 1 rfl) ?_
      obtain ⟨r_5, er_5, hE⟩ := cl_e hE
      refine gf_X5_22 C hW k_x0 er_5 dX5_isSafe_22 (fun k_r_5 => ?_)
      refine gf_X5_129 C hW k_r_5 dX5_isSafe_25 ?_
      refine lv_icmp_ne (tgt := 33) C.1 C.2.1 dX5_isSafe_28 (by decide) (fun c_6 => ?_) (fun c_6 => ?_)
      · have hE := br_n hE c_6
        refine lv_lconst (v := (1 : Int64)) C.1 C.2.1 dX5_isSafe_33 (by decide) ?_
        refine lv_iload_n C.1 C.2.1 dX5_isSafe_34 rfl (lv_at hl 2 rfl) ?_
        obtain ⟨o_7, eo_7, hE⟩ := cl_e hE
        refine x_kI (o := o_7) (z_runS (As := [.int x1]) (rest := [.long (1 : Int64)]) C (ct_X5_comeTo l X eo_7) cw_X5_184 hW hZ rfl hl.1 (Nat.le_of_ble_eq_true rfl) rfl dX5_isSafe_35 ⟨Nat.le_of_ble_eq_true rfl, Nat.le_of_ble_eq_true rfl⟩ ⟨Nat.le_refl _, Nat.le_refl _⟩) hZ (fun _ _ hW km hZ => ?_)
        replace hkm := hkm.tr km
        replace k_x0 := km.at k_x0 (by decide)
        refine lv_lshl C.1 C.2.1 dX5_isSafe_38 rfl ?_
        obtain ⟨v_8, ev_8, hE⟩ := nm_e2 hE
        refine x_nmJ ev_8 ?_
        refine lv_lstore_n (lv' := [(3, .long v_8), (2, .int o_1.1), (0, .ref x0), (1, .int x1)]) C.1 C.2.1 dX5_isSafe_39 rfl hl (by decide) rfl (fun ls hl => ?_)
        refine lv_iload_n C.1 C.2.1 dX5_isSafe_40 rfl (lv_at hl 1 rfl) ?_
        refine lv_iconst (v := (3 : Int32)) C.1 C.2.1 dX5_isSafe_41 (by decide) ?_
        refine lv_icmp_eq (tgt := 54) C.1 C.2.1 dX5_isSafe_42 (by decide) (fun c_9 => ?_) (fun c_9 => ?_)
        · have hE := br_p hE c_9
          exact bX5_isSafe_54 C k_x0 hkm hW hZ _ (lv_sub hl [2, 1, 0] rfl) hE
        · have hE := br_n hE c_9
          refine lv_lload_n C.1 C.2.1 dX5_isSafe_45 rfl (lv_at hl 0 rfl) ?_
          refine lv_lconst (v := (1 : Int64)) C.1 C.2.1 dX5_isSafe_46 (by decide) ?_
          refine lv_iload_n C.1 C.2.1 dX5_isSafe_47 rfl (lv_at hl 3 rfl) ?_
          obtain ⟨o_10, eo_10, hE⟩ := cl_e hE
          refine x_kI (o := o_10) (z_runS (As := [.int x1]) (rest := [.long (1 : Int64), .long v_8]) C (ct_X5_leftBy l X eo_10) cw_X5_236 hW hZ rfl hl.1 (Nat.le_of_ble_eq_true rfl) rfl dX5_isSafe_48 ⟨Nat.le_of_ble_eq_true rfl, Nat.le_of_ble_eq_true rfl⟩ ⟨Nat.le_refl _, Nat.le_refl _⟩) hZ (fun _ _ hW km hZ => ?_)
          replace hkm := hkm.tr km
          replace k_x0 := km.at k_x0 (by decide)
          refine lv_lshl C.1 C.2.1 dX5_isSafe_51 rfl ?_
          refine lv_lor C.1 C.2.1 dX5_isSafe_52 ?_
          obtain ⟨v_11, ev_11, hE⟩ := nm_e2 hE
          refine x_nmJ ev_11 ?_
          refine lv_lstore_n (lv' := [(3, .long v_11), (2, .int o_1.1), (0, .ref x0), (1, .int x1)]) C.1 C.2.1 dX5_isSafe_53 rfl hl (by decide) rfl (fun ls hl => ?_)
          exact bX5_isSafe_54 C k_x0 hkm hW hZ _ (lv_sub hl [2, 1, 0] rfl) hE
      · have hE := br_p hE c_6
        exact bX5_isSafe_31 C hkm hW hZ _ (lv_sub hl [] rfl) hE
theorem dX5_becomes_0 : decode cX5_becomes 0 = .ok (.iload_n 0, 1) := by decide +kernel
theorem dX5_becomes_1 : decode cX5_becomes 1 = .ok (.bipush 16, 2) := by decide +kernel
theorem dX5_becomes_3 : decode cX5_becomes 3 = .ok (.ishr, 1) := by decide +kernel
theorem dX5_becomes_4 : decode cX5_becomes 4 = .ok (.bipush 15, 2) := by decide +kernel
theorem dX5_becomes_6 : decode cX5_becomes 6 = .ok (.iand, 1) := by decide +kernel
theorem dX5_becomes_7 : decode cX5_becomes 7 = .ok (.istore_n 1, 1) := by decide +kernel
theorem dX5_becomes_8 : decode cX5_becomes 8 = .ok (.iload_n 1, 1) := by decide +kernel
theorem dX5_becomes_9 : decode cX5_becomes 9 = .ok (.bipush 15, 2) := by decide +kernel
theorem dX5_becomes_11 : decode cX5_becomes 11 = .ok (.if_icmp .ne 7, 3) := by decide +kernel
theorem dX5_becomes_14 : decode cX5_becomes 14 = .ok (.iconst (-1), 1) := by decide +kernel
theorem dX5_becomes_15 : decode cX5_becomes 15 = .ok (.goto 4, 3) := by decide +kernel
theorem dX5_becomes_18 : decode cX5_becomes 18 = .ok (.iload_n 1, 1) := by decide +kernel
theorem dX5_becomes_19 : decode cX5_becomes 19 = .ok (.ireturn, 1) := by decide +kernel
set_option maxRecDepth 20000 in
theorem moX5_becomes_19 {o : Int32 × Hp} {h : Hp} {t0 : Int32} (hE : sX5_becomes_19 h  t0 = some o) : Le h o.2 := by
  exact le_some2 hE
set_option maxRecDepth 20000 in
theorem moX5_becomes {o : Int32 × Hp} {h : Hp} {x0 : Int32} (hE : sX5_becomes h x0 = some o) : Le h o.2 := by
  obtain ⟨v_1, ev_1, hE⟩ := nm_e2 hE
  rcases br_e hE with ⟨_, hE⟩ | ⟨_, hE⟩
  · exact moX5_becomes_19 hE
  · exact moX5_becomes_19 hE
set_option maxRecDepth 20000 in
theorem bX5_becomes_19 {p : Program} {l : Launch} {e : Env} {s : State} {m : MethodId} {args : Array Value} {below : List Frame} {meth : Method} {c : Code} {X : Ec} {h0 : Hp} {o : Int32 × Hp} (C : Cx X p s m args meth c RX5 cX5_becomes 2 (some .int) "becomes") {h : Hp} {t0 : Int32} {H : Heap} {locs : List Loc} (hkm : Km h0 h) (hW : Wx X h H) (hZ : va_S (aA (eB X)) s.heap H locs) (ls : Array Slot) (hl : lv_has ls 2 []) (hE : sX5_becomes_19 h  t0 = some o) : W p l e (rm 0 0) s m args below meth c H locs 0 0 (MQ below (QI X h0 o.1 o.2) args s 0 0 (aA (eB X))) (F0 m 19 ls [.int t0]) := by
  exact x_iret C rfl rfl hW hZ hkm hE dX5_becomes_19
set_option maxRecDepth 20000 in
theorem ct_X5_becomes (l : Launch) (X : Ec) {h : Hp} {x0 : Int32} {o : Int32 × Hp} (hE : sX5_becomes h x0 = some o) : MetI l yX5_becomes cX5_becomes 2 (some .int) 0 0 X [.int x0] h o := by
  refine x_met (by decide) (Nat.le_of_ble_eq_true rfl) ?_
  intro p e s m below meth c ls C hl hW hZ
  have hl : lv_has ls 2 [(0, .int x0)] := hl
  have hkm : Km h h := Km.rf h
  refine lv_iload_n C.1 C.2.1 dX5_becomes_0 rfl (lv_at hl 0 rfl) ?_
  refine lv_bipush (v := (16 : Int32)) C.1 C.2.1 dX5_becomes_1 (by decide) ?_
  refine lv_ishr C.1 C.2.1 dX5_becomes_3 ?_
  refine lv_bipush (v := (15 : Int32)) C.1 C.2.1 dX5_becomes_4 (by decide) ?_
  refine lv_iand C.1 C.2.1 dX5_becomes_6 ?_
  obtain ⟨v_1, ev_1, hE⟩ := nm_e2 hE
  refine x_nmI ev_1 ?_
  refine lv_istore_n (lv' := [(1, .int v_1), (0, .int x0)]) C.1 C.2.1 dX5_becomes_7 rfl hl (by decide) rfl (fun ls hl => ?_)
  refine lv_iload_n C.1 C.2.1 dX5_becomes_8 rfl (lv_at hl 0 rfl) ?_
  refine lv_bipush (v := (15 : Int32)) C.1 C.2.1 dX5_becomes_9 (by decide) ?_
  refine lv_icmp_ne (tgt := 18) C.1 C.2.1 dX5_becomes_11 (by decide) (fun c_2 => ?_) (fun c_2 => ?_)
  · have hE := br_n hE c_2
    refine lv_iload_n C.1 C.2.1 dX5_becomes_18 rfl (lv_at hl 0 rfl) ?_
    exact bX5_becomes_19 C hkm hW hZ _ (lv_sub hl [] rfl) hE
  · have hE := br_p hE c_2
    refine lv_iconst (v := (-1 : Int32)) C.1 C.2.1 dX5_becomes_14 (by decide) ?_
    refine lv_goto (tgt := 19) C.1 C.2.1 dX5_becomes_15 (by decide) ?_
    exact bX5_becomes_19 C hkm hW hZ _ (lv_sub hl [] rfl) hE
set_option maxRecDepth 100000 in
theorem m_1240 : Cond.methodLink RX5 245 yX3_put ∈ W0 := w0_in (List.mem_append_right _ (List.mem_of_getElem? (i := 1240) rfl)) rfl
set_option maxRecDepth 100000 in
theorem m_1241 : Cond.methodLink RX5 251 yX5_becomes ∈ W0 := w0_in (List.mem_append_right _ (List.mem_of_getElem? (i := 1241) rfl)) rfl
set_option maxRecDepth 100000 in
theorem m_1242 : Cond.static yX5_becomes ∈ W0 := w0_in (List.mem_append_right _ (List.mem_of_getElem? (i := 1242) rfl)) rfl
set_option maxRecDepth 100000 in
theorem m_1243 : Cond.code yX5_becomes cX5_becomes 2 (some .int) ∈ W0 := w0_in (List.mem_append_right _ (List.mem_of_getElem? (i := 1243) rfl)) rfl
theorem cw_X5_245 : cwd RX5 245 yX3_put cX3_put 7 none false 3 := ⟨m_964, m_1240, m_8, ⟨m_962, m_963⟩, by decide, by decide, by decide +kernel⟩
theorem cw_X5_251 : cwd RX5 251 yX5_becomes cX5_becomes 2 (some .int) true 1 := ⟨m_1243, m_1241, m_7, m_1242, by decide, by decide, by decide +kernel⟩
theorem dX5_shift_0 : decode cX5_shift 0 = .ok (.iload_n 2, 1) := by decide +kernel
theorem dX5_shift_1 : decode cX5_shift 1 = .ok (.invokestatic 236, 3) := by decide +kernel
theorem dX5_shift_4 : decode cX5_shift 4 = .ok (.istore_n 3, 1) := by decide +kernel
theorem dX5_shift_5 : decode cX5_shift 5 = .ok (.iload_n 2, 1) := by decide +kernel
theorem dX5_shift_6 : decode cX5_shift 6 = .ok (.invokestatic 184, 3) := by decide +kernel
theorem dX5_shift_9 : decode cX5_shift 9 = .ok (.istore 4, 2) := by decide +kernel
theorem dX5_shift_11 : decode cX5_shift 11 = .ok (.iload_n 2, 1) := by decide +kernel
theorem dX5_shift_12 : decode cX5_shift 12 = .ok (.invokestatic 233, 3) := by decide +kernel
theorem dX5_shift_15 : decode cX5_shift 15 = .ok (.istore 5, 2) := by decide +kernel
theorem dX5_shift_17 : decode cX5_shift 17 = .ok (.iconst 2, 1) := by decide +kernel
theorem dX5_shift_18 : decode cX5_shift 18 = .ok (.iload_n 2, 1) := by decide +kernel
theorem dX5_shift_19 : decode cX5_shift 19 = .ok (.invokestatic 194, 3) := by decide +kernel
theorem dX5_shift_22 : decode cX5_shift 22 = .ok (.imul, 1) := by decide +kernel
theorem dX5_shift_23 : decode cX5_shift 23 = .ok (.aload_n 1, 1) := by decide +kernel
theorem dX5_shift_24 : decode cX5_shift 24 = .ok (.getfield 78, 3) := by decide +kernel
theorem dX5_shift_27 : decode cX5_shift 27 = .ok (.iadd, 1) := by decide +kernel
theorem dX5_shift_28 : decode cX5_shift 28 = .ok (.istore 6, 2) := by decide +kernel
theorem dX5_shift_30 : decode cX5_shift 30 = .ok (.iload 5, 2) := by decide +kernel
theorem dX5_shift_32 : decode cX5_shift 32 = .ok (.iconst 3, 1) := by decide +kernel
theorem dX5_shift_33 : decode cX5_shift 33 = .ok (.if_icmp .ne 19, 3) := by decide +kernel
theorem dX5_shift_36 : decode cX5_shift 36 = .ok (.aload_n 1, 1) := by decide +kernel
theorem dX5_shift_37 : decode cX5_shift 37 = .ok (.iload 4, 2) := by decide +kernel
theorem dX5_shift_39 : decode cX5_shift 39 = .ok (.iload 6, 2) := by decide +kernel
theorem dX5_shift_41 : decode cX5_shift 41 = .ok (.aload_n 0, 1) := by decide +kernel
theorem dX5_shift_42 : decode cX5_shift 42 = .ok (.getfield 22, 3) := by decide +kernel
theorem dX5_shift_45 : decode cX5_shift 45 = .ok (.getfield 129, 3) := by decide +kernel
theorem dX5_shift_48 : decode cX5_shift 48 = .ok (.invokevirtual 245, 3) := by decide +kernel
theorem dX5_shift_51 : decode cX5_shift 51 = .ok (.return_, 1) := by decide +kernel
theorem dX5_shift_52 : decode cX5_shift 52 = .ok (.iload 5, 2) := by decide +kernel
theorem dX5_shift_54 : decode cX5_shift 54 = .ok (.iconst 2, 1) := by decide +kernel
theorem dX5_shift_55 : decode cX5_shift 55 = .ok (.if_icmp .ne 67, 3) := by decide +kernel
theorem dX5_shift_58 : decode cX5_shift 58 = .ok (.aload_n 0, 1) := by decide +kernel
theorem dX5_shift_59 : decode cX5_shift 59 = .ok (.aload_n 1, 1) := by decide +kernel
theorem dX5_shift_60 : decode cX5_shift 60 = .ok (.iload_n 3, 1) := by decide +kernel
theorem dX5_shift_61 : decode cX5_shift 61 = .ok (.iload 4, 2) := by decide +kernel
theorem dX5_shift_63 : decode cX5_shift 63 = .ok (.iload_n 3, 1) := by decide +kernel
theorem dX5_shift_64 : decode cX5_shift 64 = .ok (.if_icmp .le 7, 3) := by decide +kernel
theorem dX5_shift_67 : decode cX5_shift 67 = .ok (.iconst 1, 1) := by decide +kernel
theorem dX5_shift_68 : decode cX5_shift 68 = .ok (.goto 4, 3) := by decide +kernel
theorem dX5_shift_71 : decode cX5_shift 71 = .ok (.iconst (-1), 1) := by decide +kernel
theorem dX5_shift_72 : decode cX5_shift 72 = .ok (.invokevirtual 197, 3) := by decide +kernel
theorem dX5_shift_75 : decode cX5_shift 75 = .ok (.istore 7, 2) := by decide +kernel
theorem dX5_shift_77 : decode cX5_shift 77 = .ok (.aload_n 1, 1) := by decide +kernel
theorem dX5_shift_78 : decode cX5_shift 78 = .ok (.iload 7, 2) := by decide +kernel
theorem dX5_shift_80 : decode cX5_shift 80 = .ok (.iconst (-1), 1) := by decide +kernel
theorem dX5_shift_81 : decode cX5_shift 81 = .ok (.aload_n 0, 1) := by decide +kernel
theorem dX5_shift_82 : decode cX5_shift 82 = .ok (.getfield 22, 3) := by decide +kernel
theorem dX5_shift_85 : decode cX5_shift 85 = .ok (.getfield 129, 3) := by decide +kernel
theorem dX5_shift_88 : decode cX5_shift 88 = .ok (.invokevirtual 245, 3) := by decide +kernel
theorem dX5_shift_91 : decode cX5_shift 91 = .ok (.aload_n 1, 1) := by decide +kernel
theorem dX5_shift_92 : decode cX5_shift 92 = .ok (.iload_n 3, 1) := by decide +kernel
theorem dX5_shift_93 : decode cX5_shift 93 = .ok (.iload 4, 2) := by decide +kernel
theorem dX5_shift_95 : decode cX5_shift 95 = .ok (.iadd, 1) := by decide +kernel
theorem dX5_shift_96 : decode cX5_shift 96 = .ok (.iconst 1, 1) := by decide +kernel
theorem dX5_shift_97 : decode cX5_shift 97 = .ok (.ishr, 1) := by decide +kernel
theorem dX5_shift_98 : decode cX5_shift 98 = .ok (.iconst 2, 1) := by decide +kernel
theorem dX5_shift_99 : decode cX5_shift 99 = .ok (.aload_n 0, 1) := by decide +kernel
theorem dX5_shift_100 : decode cX5_shift 100 = .ok (.getfield 22, 3) := by decide +kernel
theorem dX5_shift_103 : decode cX5_shift 103 = .ok (.getfield 248, 3) := by decide +kernel
theorem dX5_shift_106 : decode cX5_shift 106 = .ok (.imul, 1) := by decide +kernel
theorem dX5_shift_107 : decode cX5_shift 107 = .ok (.aload_n 1, 1) := by decide +kernel
theorem dX5_shift_108 : decode cX5_shift 108 = .ok (.getfield 78, 3) := by decide +kernel
theorem dX5_shift_111 : decode cX5_shift 111 = .ok (.iadd, 1) := by decide +kernel
theorem dX5_shift_112 : decode cX5_shift 112 = .ok (.aload_n 0, 1) := by decide +kernel
theorem dX5_shift_113 : decode cX5_shift 113 = .ok (.getfield 22, 3) := by decide +kernel
theorem dX5_shift_116 : decode cX5_shift 116 = .ok (.getfield 129, 3) := by decide +kernel
theorem dX5_shift_119 : decode cX5_shift 119 = .ok (.invokevirtual 245, 3) := by decide +kernel
theorem dX5_shift_122 : decode cX5_shift 122 = .ok (.iload 5, 2) := by decide +kernel
theorem dX5_shift_124 : decode cX5_shift 124 = .ok (.iconst 1, 1) := by decide +kernel
theorem dX5_shift_125 : decode cX5_shift 125 = .ok (.if_icmp .ne 20, 3) := by decide +kernel
theorem dX5_shift_128 : decode cX5_shift 128 = .ok (.aload_n 1, 1) := by decide +kernel
theorem dX5_shift_129 : decode cX5_shift 129 = .ok (.aload_n 1, 1) := by decide +kernel
theorem dX5_shift_130 : decode cX5_shift 130 = .ok (.iconst 0, 1) := by decide +kernel
theorem dX5_shift_131 : decode cX5_shift 131 = .ok (.invokevirtual 173, 3) := by decide +kernel
theorem dX5_shift_134 : decode cX5_shift 134 = .ok (.iconst (-1), 1) := by decide +kernel
theorem dX5_shift_135 : decode cX5_shift 135 = .ok (.aload_n 0, 1) := by decide +kernel
theorem dX5_shift_136 : decode cX5_shift 136 = .ok (.getfield 22, 3) := by decide +kernel
theorem dX5_shift_139 : decode cX5_shift 139 = .ok (.getfield 129, 3) := by decide +kernel
theorem dX5_shift_142 : decode cX5_shift 142 = .ok (.invokevirtual 245, 3) := by decide +kernel
theorem dX5_shift_145 : decode cX5_shift 145 = .ok (.aload_n 1, 1) := by decide +kernel
theorem dX5_shift_146 : decode cX5_shift 146 = .ok (.iload_n 3, 1) := by decide +kernel
theorem dX5_shift_147 : decode cX5_shift 147 = .ok (.iconst (-1), 1) := by decide +kernel
theorem dX5_shift_148 : decode cX5_shift 148 = .ok (.aload_n 0, 1) := by decide +kernel
theorem dX5_shift_149 : decode cX5_shift 149 = .ok (.getfield 22, 3) := by decide +kernel
theorem dX5_shift_152 : decode cX5_shift 152 = .ok (.getfield 129, 3) := by decide +kernel
theorem dX5_shift_155 : decode cX5_shift 155 = .ok (.invokevirtual 245, 3) := by decide +kernel
theorem dX5_shift_158 : decode cX5_shift 158 = .ok (.aload_n 1, 1) := by decide +kernel
theorem dX5_shift_159 : decode cX5_shift 159 = .ok (.iload 4, 2) := by decide +kernel
theorem dX5_shift_161 : decode cX5_shift 161 = .ok (.iload_n 2, 1) := by decide +kernel
theorem dX5_shift_162 : decode cX5_shift 162 = .ok (.invokestatic 251, 3) := by decide +kernel
theorem dX5_shift_165 : decode cX5_shift 165 = .ok (.iconst (-1), 1) := by decide +kernel
theorem dX5_shift_166 : decode cX5_shift 166 = .ok (.if_icmp .ne 8, 3) := by decide +kernel
theorem dX5_shift_169 : decode cX5_shift 169 = .ok (.iload 6, 2) := by decide +kernel
theorem dX5_shift_171 : decode cX5_shift 171 = .ok (.goto 14, 3) := by decide +kernel
theorem dX5_shift_174 : decode cX5_shift 174 = .ok (.iconst 2, 1) := by decide +kernel
theorem dX5_shift_175 : decode cX5_shift 175 = .ok (.iload_n 2, 1) := by decide +kernel
theorem dX5_shift_176 : decode cX5_shift 176 = .ok (.invokestatic 251, 3) := by decide +kernel
theorem dX5_shift_179 : decode cX5_shift 179 = .ok (.imul, 1) := by decide +kernel
theorem dX5_shift_180 : decode cX5_shift 180 = .ok (.aload_n 1, 1) := by decide +kernel
theorem dX5_shift_181 : decode cX5_shift 181 = .ok (.getfield 78, 3) := by decide +kernel
theorem dX5_shift_184 : decode cX5_shift 184 = .ok (.iadd, 1) := by decide +kernel
theorem dX5_shift_185 : decode cX5_shift 185 = .ok (.aload_n 0, 1) := by decide +kernel
theorem dX5_shift_186 : decode cX5_shift 186 = .ok (.getfield 22, 3) := by decide +kernel
theorem dX5_shift_189 : decode cX5_shift 189 = .ok (.getfield 129, 3) := by decide +kernel
theorem dX5_shift_192 : decode cX5_shift 192 = .ok (.invokevirtual 245, 3) := by decide +kernel
theorem dX5_shift_195 : decode cX5_shift 195 = .ok (.return_, 1) := by decide +kernel
set_option maxRecDepth 20000 in
theorem moX5_shift_185 {o : Hp} {F : Nat} {h : Hp} {x0 : Nat} {t0 : Int32} {t1 : Int32} {t2 : Nat} (hE : sX5_shift_185 F h x0 t0 t1 t2 = some o) : Le h o := by
  obtain ⟨r_1, er_1, hE⟩ := cl_e hE
  obtain ⟨o_2, eo_2, hE⟩ := cl_e hE
  refine (moX3_put eo_2).tr ?_
  exact le_some1 hE
set_option maxRecDepth 20000 in
theorem moX5_shift_145 {o : Hp} {F : Nat} {h : Hp} {x0 : Nat} {x1 : Nat} {x2 : Int32} {x3 : Int32} {x4 : Int32} {x6 : Int32} (hE : sX5_shift_145 F h x0 x1 x2 x3 x4 x6 = some o) : Le h o := by
  obtain ⟨r_1, er_1, hE⟩ := cl_e hE
  obtain ⟨o_2, eo_2, hE⟩ := cl_e hE
  refine (moX3_put eo_2).tr ?_
  obtain ⟨o_3, eo_3, hE⟩ := cl_e hE
  refine (moX5_becomes eo_3).tr ?_
  rcases br_e hE with ⟨_, hE⟩ | ⟨_, hE⟩
  · exact moX5_shift_185 hE
  · obtain ⟨o_5, eo_5, hE⟩ := cl_e hE
    refine (moX5_becomes eo_5).tr ?_
    exact moX5_shift_185 hE
set_option maxRecDepth 20000 in
theorem moX5_shift_122 {o : Hp} {F : Nat} {h : Hp} {x0 : Nat} {x1 : Nat} {x2 : Int32} {x3 : Int32} {x4 : Int32} {x5 : Int32} {x6 : Int32} (hE : sX5_shift_122 F h x0 x1 x2 x3 x4 x5 x6 = some o) : Le h o := by
  rcases br_e hE with ⟨_, hE⟩ | ⟨_, hE⟩
  · obtain ⟨o_2, eo_2, hE⟩ := cl_e hE
    refine (moX3_passSquare eo_2).tr ?_
    obtain ⟨r_3, er_3, hE⟩ := cl_e hE
    obtain ⟨o_4, eo_4, hE⟩ := cl_e hE
    refine (moX3_put eo_4).tr ?_
    exact moX5_shift_145 hE
  · exact moX5_shift_145 hE
set_option maxRecDepth 20000 in
theorem moX5_shift_72 {o : Hp} {F : Nat} {h : Hp} {x0 : Nat} {x1 : Nat} {x2 : Int32} {x3 : Int32} {x4 : Int32} {x5 : Int32} {x6 : Int32} {t0 : Int32} {t1 : Int32} {t2 : Nat} {t3 : Nat} (hE : sX5_shift_72 F h x0 x1 x2 x3 x4 x5 x6 t0 t1 t2 t3 = some o) : Le h o := by
  obtain ⟨o_1, eo_1, hE⟩ := cl_e hE
  refine (moX5_nearest eo_1).tr ?_
  obtain ⟨r_2, er_2, hE⟩ := cl_e hE
  obtain ⟨o_3, eo_3, hE⟩ := cl_e hE
  refine (moX3_put eo_3).tr ?_
  obtain ⟨r_4, er_4, hE⟩ := cl_e hE
  obtain ⟨r_5, er_5, hE⟩ := cl_e hE
  obtain ⟨o_6, eo_6, hE⟩ := cl_e hE
  refine (moX3_put eo_6).tr ?_
  exact moX5_shift_122 hE
set_option maxRecDepth 20000 in
theorem moX5_shift {o : Hp} {F : Nat} {h : Hp} {x0 : Nat} {x1 : Nat} {x2 : Int32} (hE : sX5_shift F h x0 x1 x2 = some o) : Le h o := by
  obtain ⟨o_1, eo_1, hE⟩ := cl_e hE
  refine (moX5_leftBy eo_1).tr ?_
  obtain ⟨o_2, eo_2, hE⟩ := cl_e hE
  refine (moX5_comeTo eo_2).tr ?_
  obtain ⟨o_3, eo_3, hE⟩ := cl_e hE
  refine (moX5_kindOf eo_3).tr ?_
  obtain ⟨o_4, eo_4, hE⟩ := cl_e hE
  refine (moX5_manOf eo_4).tr ?_
  obtain ⟨v_5, ev_5, hE⟩ := nm_e2 hE
  rcases br_e hE with ⟨_, hE⟩ | ⟨_, hE⟩
  · obtain ⟨r_9, er_9, hE⟩ := cl_e hE
    obtain ⟨o_10, eo_10, hE⟩ := cl_e hE
    refine (moX3_put eo_10).tr ?_
    exact le_some1 hE
  · rcases br_e hE with ⟨_, hE⟩ | ⟨_, hE⟩
    · rcases br_e hE with ⟨_, hE⟩ | ⟨_, hE⟩
      · exact moX5_shift_72 hE
      · exact moX5_shift_72 hE
    · exact moX5_shift_122 hE
set_option maxRecDepth 20000 in
theorem bX5_shift_185 {p : Program} {l : Launch} {e : Env} {s : State} {m : MethodId} {args : Array Value} {below : List Frame} {meth : Method} {c : Code} {X : Ec} {h0 : Hp} {o : Hp} {F : Nat} (C : Cx X p s m args meth c RX5 cX5_shift 8 none "shift") {h : Hp} {x0 : Nat} {t0 : Int32} {t1 : Int32} {t2 : Nat} {H : Heap} {locs : List Loc} (k_x0 : hK h x0 = 5) (k_t2 : hK h t2 = 3) (hkm : Km h0 h) (hW : Wx X h H) (hZ : va_S (aA (eB X)) s.heap H locs) (ls : Array Slot) (hl : lv_has ls 8 [(0, .ref x0)]) (hE : sX5_shift_185 F h x0 t0 t1 t2 = some o) : W p l e (rm 1 26) s m args below meth c H locs 0 0 (MQ below (QV X h0 o) args s 0 0 (aA (eB X))) (F0 m 185 ls [.int t0, .int t1, .ref t2]) := by
  refine lv_aload_n C.1 C.2.1 dX5_shift_185 rfl (lv_at hl 0 rfl) ?_
  obtain ⟨r_1, er_1, hE⟩ := cl_e hE
  refine gf_X5_22 C hW k_x0 er_1 dX5_shift_186 (fun k_r_1 => ?_)
  refine gf_X5_129 C hW k_r_1 dX5_shift_189 ?_
  obtain ⟨o_2, eo_2, hE⟩ := cl_e hE
  refine x_kV (o := o_2) (z_runV (As := [.int t1, .int t0, .int (hI h r_1 4)]) (rest := []) C (ct_X3_put l X k_t2 eo_2) cw_X5_245 hW hZ k_t2 (by decide) rfl rfl rfl hl.1 (Nat.le_of_ble_eq_true rfl) rfl dX5_shift_192 ⟨Nat.le_of_ble_eq_true rfl, Nat.le_of_ble_eq_true rfl⟩ ⟨Nat.le_refl _, Nat.le_refl _⟩) hZ (fun _ _ hW km hZ => ?_)
  replace hkm := hkm.tr km
  replace k_x0 := km.at k_x0 (by decide)
  exact x_vret C rfl hW hZ hkm hE dX5_shift_195
set_option maxRecDepth 20000 in
theorem bX5_shift_145 {p : Program} {l : Launch} {e : Env} {s : State} {m : MethodId} {args : Array Value} {below : List Frame} {meth : Method} {c : Code} {X : Ec} {h0 : Hp} {o : Hp} {F : Nat} (C : Cx X p s m args meth c RX5 cX5_shift 8 none "shift") {h : Hp} {x0 : Nat} {x1 : Nat} {x2 : Int32} {x3 : Int32} {x4 : Int32} {x6 : Int32} {H : Heap} {locs : List Loc} (k_x0 : hK h x0 = 5) (k_x1 : hK h x1 = 3) (hkm : Km h0 h) (hW : Wx X h H) (hZ : va_S (aA (eB X)) s.heap H locs) (ls : Array Slot) (hl : lv_has ls 8 [(0, .ref x0), (1, .ref x1), (2, .int x2), (3, .int x3), (4, .int x4), (6, .int x6)]) (hE : sX5_shift_145 F h x0 x1 x2 x3 x4 x6 = some o) : W p l e (rm 1 26) s m args below meth c H locs 0 0 (MQ below (QV X h0 o) args s 0 0 (aA (eB X))) (F0 m 145 ls []) := by
  refine lv_aload_n C.1 C.2.1 dX5_shift_145 rfl (lv_at hl 1 rfl) ?_
  refine lv_iload_n C.1 C.2.1 dX5_shift_146 rfl (lv_at hl 3 rfl) ?_
  refine lv_iconst (v := (-1 : Int32)) C.1 C.2.1 dX5_shift_147 (by decide) ?_
  refine lv_aload_n C.1 C.2.1 dX5_shift_148 rfl (lv_at hl 0 rfl) ?_
  obtain ⟨r_1, er_1, hE⟩ := cl_e hE
  refine gf_X5_22 C hW k_x0 er_1 dX5_shift_149 (fun k_r_1 => ?_)
  refine gf_X5_129 C hW k_r_1 dX5_shift_152 ?_
  obtain ⟨o_2, eo_2, hE⟩ := cl_e hE
  refine x_kV (o := o_2) (z_runV (As := [.int x3, .int (-1 : Int32), .int (hI h r_1 4)]) (rest := []) C (ct_X3_put l X k_x1 eo_2) cw_X5_245 hW hZ k_x1 (by decide) rfl rfl rfl hl.1 (Nat.le_of_ble_eq_true rfl) rfl dX5_shift_155 ⟨Nat.le_of_ble_eq_true rfl, Nat.le_of_ble_eq_true rfl⟩ ⟨Nat.le_refl _, Nat.le_refl _⟩) hZ (fun _ _ hW km hZ => ?_)
  replace hkm := hkm.tr km
  replace k_x0 := km.at k_x0 (by decide)
  replace k_x1 := km.at k_x1 (by decide)
  refine lv_aload_n C.1 C.2.1 dX5_shift_158 rfl (lv_at hl 1 rfl) ?_
  refine lv_iload C.1 C.2.1 dX5_shift_159 (lv_at hl 4 rfl) ?_
  refine lv_iload_n C.1 C.2.1 dX5_shift_161 rfl (lv_at hl 2 rfl) ?_
  obtain ⟨o_3, eo_3, hE⟩ := cl_e hE
  refine x_kI (o := o_3) (z_runS (As := [.int x2]) (rest := [.int x4, .ref x1]) C (ct_X5_becomes l X eo_3) cw_X5_251 hW hZ rfl hl.1 (Nat.le_of_ble_eq_true rfl) rfl dX5_shift_162 ⟨Nat.le_of_ble_eq_true rfl, Nat.le_of_ble_eq_true rfl⟩ ⟨Nat.le_refl _, Nat.le_refl _⟩) hZ (fun _ _ hW km hZ => ?_)
  replace hkm := hkm.tr km
  replace k_x0 := km.at k_x0 (by decide)
  replace k_x1 := km.at k_x1 (by decide)
  refine lv_iconst (v := (-1 : Int32)) C.1 C.2.1 dX5_shift_165 (by decide) ?_
  refine lv_icmp_ne (tgt := 174) C.1 C.2.1 dX5_shift_166 (by decide) (fun c_4 => ?_) (fun c_4 => ?_)
  · have hE := br_n hE c_4
    refine lv_iconst (v := (2 : Int32)) C.1 C.2.1 dX5_shift_174 (by decide) ?_
    refine lv_iload_n C.1 C.2.1 dX5_shift_175 rfl (lv_at hl 2 rfl) ?_
    obtain ⟨o_5, eo_5, hE⟩ := cl_e hE
    refine x_kI (o := o_5) (z_runS (As := [.int x2]) (rest := [.int (2 : Int32), .int x4, .ref x1]) C (ct_X5_becomes l X eo_5) cw_X5_251 hW hZ rfl hl.1 (Nat.le_of_ble_eq_true rfl) rfl dX5_shift_176 ⟨Nat.le_of_ble_eq_true rfl, Nat.le_of_ble_eq_true rfl⟩ ⟨Nat.le_refl _, Nat.le_refl _⟩) hZ (fun _ _ hW km hZ => ?_)
    replace hkm := hkm.tr km
    replace k_x0 := km.at k_x0 (by decide)
    replace k_x1 := km.at k_x1 (by decide)
    refine lv_imul C.1 C.2.1 dX5_shift_179 ?_
    refine lv_aload_n C.1 C.2.1 dX5_shift_180 rfl (lv_at hl 1 rfl) ?_
    refine gf_X5_78 C hW k_x1 dX5_shift_181 ?_
    refine lv_iadd C.1 C.2.1 dX5_shift_184 ?_
    exact bX5_shift_185 C k_x0 k_x1 hkm hW hZ _ (lv_sub hl [0] rfl) hE
  · have hE := br_p hE c_4
    refine lv_iload C.1 C.2.1 dX5_shift_169 (lv_at hl 5 rfl) ?_
    refine lv_goto (tgt := 185) C.1 C.2.1 dX5_shift_171 (by decide) ?_
    exact bX5_shift_185 C k_x0 k_x1 hkm hW hZ _ (lv_sub hl [0] rfl) hE
set_option maxRecDepth 20000 in
theorem bX5_shift_122 {p : Program} {l : Launch} {e : Env} {s : State} {m : MethodId} {args : Array Value} {below : List Frame} {meth : Method} {c : Code} {X : Ec} {h0 : Hp} {o : Hp} {F : Nat} (C : Cx X p s m args meth c RX5 cX5_shift 8 none "shift") {h : Hp} {x0 : Nat} {x1 : Nat} {x2 : Int32} {x3 : Int32} {x4 : Int32} {x5 : Int32} {x6 : Int32} {H : Heap} {locs : List Loc} (k_x0 : hK h x0 = 5) (k_x1 : hK h x1 = 3) (hkm : Km h0 h) (hW : Wx X h H) (hZ : va_S (aA (eB X)) s.heap H locs) (ls : Array Slot) (hl : lv_has ls 8 [(0, .ref x0), (1, .ref x1), (2, .int x2), (3, .int x3), (4, .int x4), (5, .int x5), (6, .int x6)]) (hE : sX5_shift_122 F h x0 x1 x2 x3 x4 x5 x6 = some o) : W p l e (rm 1 26) s m args below meth c H locs 0 0 (MQ below (QV X h0 o) args s 0 0 (aA (eB X))) (F0 m 122 ls []) := by
  refine lv_iload C.1 C.2.1 dX5_shift_122 (lv_at hl 5 rfl) ?_
  refine lv_iconst (v := (1 : Int32)) C.1 C.2.1 dX5_shift_124 (by decide) ?_
  refine lv_icmp_ne (tgt := 145) C.1 C.2.1 dX5_shift_125 (by decide) (fun c_1 => ?_) (fun c_1 => ?_)
  · have hE := br_n hE c_1
    exact bX5_shift_145 C k_x0 k_x1 hkm hW hZ _ (lv_sub hl [0, 1, 2, 3, 4, 6] rfl) hE
  · have hE := br_p hE c_1
    refine lv_aload_n C.1 C.2.1 dX5_shift_128 rfl (lv_at hl 1 rfl) ?_
    refine lv_aload_n C.1 C.2.1 dX5_shift_129 rfl (lv_at hl 1 rfl) ?_
    refine lv_iconst (v := (0 : Int32)) C.1 C.2.1 dX5_shift_130 (by decide) ?_
    obtain ⟨o_2, eo_2, hE⟩ := cl_e hE
    refine x_kI (o := o_2) (z_runV (As := [.int (0 : Int32)]) (rest := [.ref x1]) C (ct_X3_passSquare l X k_x1 eo_2) cw_X5_173 hW hZ k_x1 (by decide) rfl rfl rfl hl.1 (Nat.le_of_ble_eq_true rfl) rfl dX5_shift_131 ⟨Nat.le_of_ble_eq_true rfl, Nat.le_of_ble_eq_true rfl⟩ ⟨Nat.le_refl _, Nat.le_refl _⟩) hZ (fun _ _ hW km hZ => ?_)
    replace hkm := hkm.tr km
    replace k_x0 := km.at k_x0 (by decide)
    replace k_x1 := km.at k_x1 (by decide)
    refine lv_iconst (v := (-1 : Int32)) C.1 C.2.1 dX5_shift_134 (by decide) ?_
    refine lv_aload_n C.1 C.2.1 dX5_shift_135 rfl (lv_at hl 0 rfl) ?_
    obtain ⟨r_3, er_3, hE⟩ := cl_e hE
    refine gf_X5_22 C hW k_x0 er_3 dX5_shift_136 (fun k_r_3 => ?_)
    refine gf_X5_129 C hW k_r_3 dX5_shift_139 ?_
    obtain ⟨o_4, eo_4, hE⟩ := cl_e hE
    refine x_kV (o := o_4) (z_runV (As := [.int o_2.1, .int (-1 : Int32), .int (hI o_2.2 r_3 4)]) (rest := []) C (ct_X3_put l X k_x1 eo_4) cw_X5_245 hW hZ k_x1 (by decide) rfl rfl rfl hl.1 (Nat.le_of_ble_eq_true rfl) rfl dX5_shift_142 ⟨Nat.le_of_ble_eq_true rfl, Nat.le_of_ble_eq_true rfl⟩ ⟨Nat.le_refl _, Nat.le_refl _⟩) hZ (fun _ _ hW km hZ => ?_)
    replace hkm := hkm.tr km
    replace k_x0 := km.at k_x0 (by decide)
    replace k_x1 := km.at k_x1 (by decide)
    exact bX5_shift_145 C k_x0 k_x1 hkm hW hZ _ (lv_sub hl [0, 1, 2, 3, 4, 6] rfl) hE
set_option maxRecDepth 20000 in
theorem bX5_shift_72 {p : Program} {l : Launch} {e : Env} {s : State} {m : MethodId} {args : Array Value} {below : List Frame} {meth : Method} {c : Code} {X : Ec} {h0 : Hp} {o : Hp} {F : Nat} (C : Cx X p s m args meth c RX5 cX5_shift 8 none "shift") {h : Hp} {x0 : Nat} {x1 : Nat} {x2 : Int32} {x3 : Int32} {x4 : Int32} {x5 : Int32} {x6 : Int32} {t0 : Int32} {t1 : Int32} {t2 : Nat} {t3 : Nat} {H : Heap} {locs : List Loc} (k_x0 : hK h x0 = 5) (k_x1 : hK h x1 = 3) (k_t2 : hK h t2 = 3) (k_t3 : hK h t3 = 5) (hkm : Km h0 h) (hW : Wx X h H) (hZ : va_S (aA (eB X)) s.heap H locs) (ls : Array Slot) (hl : lv_has ls 8 [(0, .ref x0), (1, .ref x1), (2, .int x2), (3, .int x3), (4, .int x4), (5, .int x5), (6, .int x6)]) (hE : sX5_shift_72 F h x0 x1 x2 x3 x4 x5 x6 t0 t1 t2 t3 = some o) : W p l e (rm 1 26) s m args below meth c H locs 0 0 (MQ below (QV X h0 o) args s 0 0 (aA (eB X))) (F0 m 72 ls [.int t0, .int t1, .ref t2, .ref t3]) := by
  obtain ⟨o_1, eo_1, hE⟩ := cl_e hE
  refine x_kI (o := o_1) (z_runV (As := [.ref t2, .int t1, .int t0]) (rest := []) C (ct_X5_nearest l X F k_t3 k_t2 eo_1) cw_X5_197 hW hZ k_t3 (by decide) rfl rfl rfl hl.1 (Nat.le_of_ble_eq_true rfl) rfl dX5_shift_72 ⟨Nat.le_of_ble_eq_true rfl, Nat.le_of_ble_eq_true rfl⟩ ⟨Nat.le_refl _, Nat.le_refl _⟩) hZ (fun _ _ hW km hZ => ?_)
  replace hkm := hkm.tr km
  replace k_x0 := km.at k_x0 (by decide)
  replace k_x1 := km.at k_x1 (by decide)
  refine lv_istore (lv' := [(7, .int o_1.1), (0, .ref x0), (1, .ref x1), (2, .int x2), (3, .int x3), (4, .int x4), (5, .int x5), (6, .int x6)]) C.1 C.2.1 dX5_shift_75 hl (by decide) rfl (fun ls hl => ?_)
  refine lv_aload_n C.1 C.2.1 dX5_shift_77 rfl (lv_at hl 2 rfl) ?_
  refine lv_iload C.1 C.2.1 dX5_shift_78 (lv_at hl 0 rfl) ?_
  refine lv_iconst (v := (-1 : Int32)) C.1 C.2.1 dX5_shift_80 (by decide) ?_
  refine lv_aload_n C.1 C.2.1 dX5_shift_81 rfl (lv_at hl 1 rfl) ?_
  obtain ⟨r_2, er_2, hE⟩ := cl_e hE
  refine gf_X5_22 C hW k_x0 er_2 dX5_shift_82 (fun k_r_2 => ?_)
  refine gf_X5_129 C hW k_r_2 dX5_shift_85 ?_
  obtain ⟨o_3, eo_3, hE⟩ := cl_e hE
  refine x_kV (o := o_3) (z_runV (As := [.int o_1.1, .int (-1 : Int32), .int (hI o_1.2 r_2 4)]) (rest := []) C (ct_X3_put l X k_x1 eo_3) cw_X5_245 hW hZ k_x1 (by decide) rfl rfl rfl hl.1 (Nat.le_of_ble_eq_true rfl) rfl dX5_shift_88 ⟨Nat.le_of_ble_eq_true rfl, Nat.le_of_ble_eq_true rfl⟩ ⟨Nat.le_refl _, Nat.le_refl _⟩) hZ (fun _ _ hW km hZ => ?_)
  replace hkm := hkm.tr km
  replace k_x0 := km.at k_x0 (by decide)
  replace k_x1 := km.at k_x1 (by decide)
  refine lv_aload_n C.1 C.2.1 dX5_shift_91 rfl (lv_at hl 2 rfl) ?_
  refine lv_iload_n C.1 C.2.1 dX5_shift_92 rfl (lv_at hl 4 rfl) ?_
  refine lv_iload C.1 C.2.1 dX5_shift_93 (lv_at hl 5 rfl) ?_
  refine lv_iadd C.1 C.2.1 dX5_shift_95 ?_
  refine lv_iconst (v := (1 : Int32)) C.1 C.2.1 dX5_shift_96 (by decide) ?_
  refine lv_ishr C.1 C.2.1 dX5_shift_97 ?_
  refine lv_iconst (v := (2 : Int32)) C.1 C.2.1 dX5_shift_98 (by decide) ?_
  refine lv_aload_n C.1 C.2.1 dX5_shift_99 rfl (lv_at hl 1 rfl) ?_
  obtain ⟨r_4, er_4, hE⟩ := cl_e hE
  refine gf_X5_22 C hW k_x0 er_4 dX5_shift_100 (fun k_r_4 => ?_)
  refine gf_X5_248 C hW k_r_4 dX5_shift_103 ?_
  refine lv_imul C.1 C.2.1 dX5_shift_106 ?_
  refine lv_aload_n C.1 C.2.1 dX5_shift_107 rfl (lv_at hl 2 rfl) ?_
  refine gf_X5_78 C hW k_x1 dX5_shift_108 ?_
  refine lv_iadd C.1 C.2.1 dX5_shift_111 ?_
  refine lv_aload_n C.1 C.2.1 dX5_shift_112 rfl (lv_at hl 1 rfl) ?_
  obtain ⟨r_5, er_5, hE⟩ := cl_e hE
  refine gf_X5_22 C hW k_x0 er_5 dX5_shift_113 (fun k_r_5 => ?_)
  refine gf_X5_129 C hW k_r_5 dX5_shift_116 ?_
  obtain ⟨o_6, eo_6, hE⟩ := cl_e hE
  refine x_kV (o := o_6) (z_runV (As := [.int ((x3 + x4) >>> ((1 : Int32) &&& 31)), .int (((2 : Int32) * (hI o_3 r_4 6)) + (hI o_3 x1 5)), .int (hI o_3 r_5 4)]) (rest := []) C (ct_X3_put l X k_x1 eo_6) cw_X5_245 hW hZ k_x1 (by decide) rfl rfl rfl hl.1 (Nat.le_of_ble_eq_true rfl) rfl dX5_shift_119 ⟨Nat.le_of_ble_eq_true rfl, Nat.le_of_ble_eq_true rfl⟩ ⟨Nat.le_refl _, Nat.le_refl _⟩) hZ (fun _ _ hW km hZ => ?_)
  replace hkm := hkm.tr km
  replace k_x0 := km.at k_x0 (by decide)
  replace k_x1 := km.at k_x1 (by decide)
  exact bX5_shift_122 C k_x0 k_x1 hkm hW hZ _ (lv_sub hl [1, 2, 3, 4, 5, 6, 7] rfl) hE
set_option maxRecDepth 20000 in
theorem ct_X5_shift (l : Launch) (X : Ec) (F : Nat) {h : Hp} {x0 : Nat} {x1 : Nat} {x2 : Int32} {o : Hp} (k_x0 : hK h x0 = 5) (k_x1 : hK h x1 = 3) (hE : sX5_shift F h x0 x1 x2 = some o) : MetV l yX5_shift cX5_shift 8 none 1 26 X [.ref x0, .ref x1, .int x2] h o := by
  refine x_met (by decide) (Nat.le_of_ble_eq_true rfl) ?_
  intro p e s m below meth c ls C hl hW hZ
  have hl : lv_has ls 8 [(0, .ref x0), (1, .ref x1), (2, .int x2)] := hl
  have hkm : Km h h := Km.rf h
  refine lv_iload_n C.1 C.2.1 dX5_shift_0 rfl (lv_at hl 2 rfl) ?_
  obtain ⟨o_1, eo_1, hE⟩ := cl_e hE
  refine x_kI (o := o_1) (z_runS (As := [.int x2]) (rest := []) C (ct_X5_leftBy l X eo_1) cw_X5_236 hW hZ rfl hl.1 (Nat.le_of_ble_eq_true rfl) rfl dX5_shift_1 ⟨Nat.le_of_ble_eq_true rfl, Nat.le_of_ble_eq_true rfl⟩ ⟨Nat.le_refl _, Nat.le_refl _⟩) hZ (fun _ _ hW km hZ => ?_)
  replace hkm := hkm.tr km
  replace k_x0 := km.at k_x0 (by decide)
  replace k_x1 := km.at k_x1 (by decide)
  refine lv_istore_n (lv' := [(3, .int o_1.1), (0, .ref x0), (1, .ref x1), (2, .int x2)]) C.1 C.2.1 dX5_shift_4 rfl hl (by decide) rfl (fun ls hl => ?_)
  refine lv_iload_n C.1 C.2.1 dX5_shift_5 rfl (lv_at hl 3 rfl) ?_
  obtain ⟨o_2, eo_2, hE⟩ := cl_e hE
  refine x_kI (o := o_2) (z_runS (As := [.int x2]) (rest := []) C (ct_X5_comeTo l X eo_2) cw_X5_184 hW hZ rfl hl.1 (Nat.le_of_ble_eq_true rfl) rfl dX5_shift_6 ⟨Nat.le_of_ble_eq_true rfl, Nat.le_of_ble_eq_true rfl⟩ ⟨Nat.le_refl _, Nat.le_refl _⟩) hZ (fun _ _ hW km hZ => ?_)
  replace hkm := hkm.tr km
  replace k_x0 := km.at k_x0 (by decide)
  replace k_x1 := km.at k_x1 (by decide)
  refine lv_istore (lv' := [(4, .int o_2.1), (3, .int o_1.1), (0, .ref x0), (1, .ref x1), (2, .int x2)]) C.1 C.2.1 dX5_shift_9 hl (by decide) rfl (fun ls hl => ?_)
  refine lv_iload_n C.1 C.2.1 dX5_shift_11 rfl (lv_at hl 4 rfl) ?_
  obtain ⟨o_3, eo_3, hE⟩ := cl_e hE
  refine x_kI (o := o_3) (z_runS (As := [.int x2]) (rest := []) C (ct_X5_kindOf l X eo_3) cw_X5_233 hW hZ rfl hl.1 (Nat.le_of_ble_eq_true rfl) rfl dX5_shift_12 ⟨Nat.le_of_ble_eq_true rfl, Nat.le_of_ble_eq_true rfl⟩ ⟨Nat.le_refl _, Nat.le_refl _⟩) hZ (fun _ _ hW km hZ => ?_)
  replace hkm := hkm.tr km
  replace k_x0 := km.at k_x0 (by decide)
  replace k_x1 := km.at k_x1 (by decide)
  refine lv_istore (lv' := [(5, .int o_3.1), (4, .int o_2.1), (3, .int o_1.1), (0, .ref x0), (1, .ref x1), (2, .int x2)]) C.1 C.2.1 dX5_shift_15 hl (by decide) rfl (fun ls hl => ?_)
  refine lv_iconst (v := (2 : Int32)) C.1 C.2.1 dX5_shift_17 (by decide) ?_
  refine lv_iload_n C.1 C.2.1 dX5_shift_18 rfl (lv_at hl 5 rfl) ?_
  obtain ⟨o_4, eo_4, hE⟩ := cl_e hE
  refine x_kI (o := o_4) (z_runS (As := [.int x2]) (rest := [.int (2 : Int32)]) C (ct_X5_manOf l X eo_4) cw_X5_194 hW hZ rfl hl.1 (Nat.le_of_ble_eq_true rfl) rfl dX5_shift_19 ⟨Nat.le_of_ble_eq_true rfl, Nat.le_of_ble_eq_true rfl⟩ ⟨Nat.le_refl _, Nat.le_refl _⟩) hZ (fun _ _ hW km hZ => ?_)
  replace hkm := hkm.tr km
  replace k_x0 := km.at k_x0 (by decide)
  replace k_x1 := km.at k_x1 (by decide)
  refine lv_imul C.1 C.2.1 dX5_shift_22 ?_
  refine lv_aload_n C.1 C.2.1 dX5_shift_23 rfl (lv_at hl 4 rfl) ?_
  refine gf_X5_78 C hW k_x1 dX5_shift_24 ?_
  refine lv_iadd C.1 C.2.1 dX5_shift_27 ?_
  obtain ⟨v_5, ev_5, hE⟩ := nm_e2 hE
  refine x_nmI ev_5 ?_
  refine lv_istore (lv' := [(6, .int v_5), (5, .int o_3.1), (4, .int o_2.1), (3, .int o_1.1), (0, .ref x0), (1, .ref x1), (2, .int x2)]) C.1 C.2.1 dX5_shift_28 hl (by decide) rfl (fun ls hl => ?_)
  refine lv_iload C.1 C.2.1 dX5_shift_30 (lv_at hl 1 rfl) ?_
  refine lv_iconst (v := (3 : Int32)) C.1 C.2.1 dX5_shift_32 (by decide) ?_
  refine lv_icmp_ne (tgt := 52) C.1 C.2.1 dX5_shift_33 (by decide) (fun c_6 => ?_) (fun c_6 => ?_)
  · have hE := br_n hE c_6
    refine lv_iload C.1 C.2.1 dX5_shift_52 (lv_at hl 1 rfl) ?_
    refine lv_iconst (v := (2 : Int32)) C.1 C.2.1 dX5_shift_54 (by decide) ?_
    refine lv_icmp_ne (tgt := 122) C.1 C.2.1 dX5_shift_55 (by decide) (fun c_7 => ?_) (fun c_7 => ?_)
    · have hE := br_n hE c_7
      exact bX5_shift_122 C k_x0 k_x1 hkm hW hZ _ (lv_sub hl [4, 5, 6, 3, 2, 1, 0] rfl) hE
    · have hE := br_p hE c_7
      refine lv_aload_n C.1 C.2.1 dX5_shift_58 rfl (lv_at hl 4 rfl) ?_
      refine lv_aload_n C.1 C.2.1 dX5_shift_59 rfl (lv_at hl 5 rfl) ?_
      refine lv_iload_n C.1 C.2.1 dX5_shift_60 rfl (lv_at hl 3 rfl) ?_
      refine lv_iload C.1 C.2.1 dX5_shift_61 (lv_at hl 2 rfl) ?_
      refine lv_iload_n C.1 C.2.1 dX5_shift_63 rfl (lv_at hl 3 rfl) ?_
      refine lv_icmp_le (tgt := 71) C.1 C.2.1 dX5_shift_64 (by decide) (fun c_8 => ?_) (fun c_8 => ?_)
      · have hE := br_p hE c_8
        refine lv_iconst (v := (-1 : Int32)) C.1 C.2.1 dX5_shift_71 (by decide) ?_
        exact bX5_shift_72 C k_x0 k_x1 k_x1 k_x0 hkm hW hZ _ (lv_sub hl [4, 5, 6, 3, 2, 1, 0] rfl) hE
      · have hE := br_n hE c_8
        refine lv_iconst (v := (1 : Int32)) C.1 C.2.1 dX5_shift_67 (by decide) ?_
        refine lv_goto (tgt := 72) C.1 C.2.1 dX5_shift_68 (by decide) ?_
        exact bX5_shift_72 C k_x0 k_x1 k_x1 k_x0 hkm hW hZ _ (lv_sub hl [4, 5, 6, 3, 2, 1, 0] rfl) hE
  · have hE := br_p hE c_6
    refine lv_aload_n C.1 C.2.1 dX5_shift_36 rfl (lv_at hl 5 rfl) ?_
    refine lv_iload C.1 C.2.1 dX5_shift_37 (lv_at hl 2 rfl) ?_
    refine lv_iload C.1 C.2.1 dX5_shift_39 (lv_at hl 0 rfl) ?_
    refine lv_aload_n C.1 C.2.1 dX5_shift_41 rfl (lv_at hl 4 rfl) ?_
    obtain ⟨r_9, er_9, hE⟩ := cl_e hE
    refine gf_X5_22 C hW k_x0 er_9 dX5_shift_42 (fun k_r_9 => ?_)
    refine gf_X5_129 C hW k_r_9 dX5_shift_45 ?_
    obtain ⟨o_10, eo_10, hE⟩ := cl_e hE
    refine x_kV (o := o_10) (z_runV (As := [.int o_2.1, .int v_5, .int (hI o_4.2 r_9 4)]) (rest := []) C (ct_X3_put l X k_x1 eo_10) cw_X5_245 hW hZ k_x1 (by decide) rfl rfl rfl hl.1 (Nat.le_of_ble_eq_true rfl) rfl dX5_shift_48 ⟨Nat.le_of_ble_eq_true rfl, Nat.le_of_ble_eq_true rfl⟩ ⟨Nat.le_refl _, Nat.le_refl _⟩) hZ (fun _ _ hW km hZ => ?_)
    replace hkm := hkm.tr km
    replace k_x0 := km.at k_x0 (by decide)
    replace k_x1 := km.at k_x1 (by decide)
    exact x_vret C rfl hW hZ hkm hE dX5_shift_51
set_option maxRecDepth 100000 in
theorem m_113 : Cond.fieldLink RX5 256 (TX1 11).1 (TX1 11).2.1 (TX1 11).2.2.1 ∈ W0 := w0_in (List.mem_append_right _ (List.mem_of_getElem? (i := 113) rfl)) rfl
set_option maxRecDepth 100000 in
theorem m_235 : Cond.fieldLink RX5 253 (TX10 5).1 (TX10 5).2.1 (TX10 5).2.2.1 ∈ W0 := w0_in (List.mem_append_right _ (List.mem_of_getElem? (i := 235) rfl)) rfl
section
variable {p : Program} {l : Launch} {e : Env} {R : Room} {s : State} {m : MethodId} {args : Array Value} {below : List Frame} {meth : Method} {c : Code} {H : Heap} {locs : List Loc} {cells slots : Nat} {Q : State → Prop}
variable {cc : ByteArray} {pc : Nat} {ls : Array Slot} {rest : List Value} {X : Ec} {h h1 : Hp} {nL : Nat} {rt : Option FieldType} {mn : String}
theorem gf_X5_256 {a : Nat} (C : Cx X p s m args meth c RX5 cc nL rt mn) (hW : Wx X h H) (ha : hK h a = 1) (hdg : decode cc pc = .ok (.getfield 256, 3)) (kk : W p l e R s m args below meth c H locs cells slots Q (F0 m (pc + 3) ls (.int (hI h a 11) :: rest))) : W p l e R s m args below meth c H locs cells slots Q (F0 m pc ls (.ref a :: rest)) :=
  y_geti C hW ha i_X1 (by decide) rfl (by decide) m_113 rfl hdg kk
theorem gf_X5_253 {a r : Nat} (C : Cx X p s m args meth c RX5 cc nL rt mn) (hW : Wx X h H) (ha : hK h a = 10) (hr : hR h a 5 = some r) (hdg : decode cc pc = .ok (.getfield 253, 3)) (kk : hK h r = 18 → W p l e R s m args below meth c H locs cells slots Q (F0 m (pc + 3) ls (.ref r :: rest))) : W p l e R s m args below meth c H locs cells slots Q (F0 m pc ls (.ref a :: rest)) :=
  y_getr C hW ha i_X10 (by decide) rfl (by decide) m_235 rfl rfl hr hdg kk
end
theorem dX5_blast_0 : decode cX5_blast 0 = .ok (.aload_n 0, 1) := by decide +kernel
theorem dX5_blast_1 : decode cX5_blast 1 = .ok (.getfield 22, 3) := by decide +kernel
theorem dX5_blast_4 : decode cX5_blast 4 = .ok (.bipush 8, 2) := by decide +kernel
theorem dX5_blast_6 : decode cX5_blast 6 = .ok (.invokevirtual 104, 3) := by decide +kernel
theorem dX5_blast_9 : decode cX5_blast 9 = .ok (.ifCond .eq 11, 3) := by decide +kernel
theorem dX5_blast_12 : decode cX5_blast 12 = .ok (.iload_n 2, 1) := by decide +kernel
theorem dX5_blast_13 : decode cX5_blast 13 = .ok (.invokestatic 181, 3) := by decide +kernel
theorem dX5_blast_16 : decode cX5_blast 16 = .ok (.iconst (-1), 1) := by decide +kernel
theorem dX5_blast_17 : decode cX5_blast 17 = .ok (.if_icmp .ne 4, 3) := by decide +kernel
theorem dX5_blast_20 : decode cX5_blast 20 = .ok (.return_, 1) := by decide +kernel
theorem dX5_blast_21 : decode cX5_blast 21 = .ok (.iload_n 2, 1) := by decide +kernel
theorem dX5_blast_22 : decode cX5_blast 22 = .ok (.invokestatic 184, 3) := by decide +kernel
theorem dX5_blast_25 : decode cX5_blast 25 = .ok (.istore_n 3, 1) := by decide +kernel
theorem dX5_blast_26 : decode cX5_blast 26 = .ok (.aload_n 1, 1) := by decide +kernel
theorem dX5_blast_27 : decode cX5_blast 27 = .ok (.iload_n 3, 1) := by decide +kernel
theorem dX5_blast_28 : decode cX5_blast 28 = .ok (.iconst (-1), 1) := by decide +kernel
theorem dX5_blast_29 : decode cX5_blast 29 = .ok (.aload_n 0, 1) := by decide +kernel
theorem dX5_blast_30 : decode cX5_blast 30 = .ok (.getfield 22, 3) := by decide +kernel
theorem dX5_blast_33 : decode cX5_blast 33 = .ok (.getfield 129, 3) := by decide +kernel
theorem dX5_blast_36 : decode cX5_blast 36 = .ok (.invokevirtual 245, 3) := by decide +kernel
theorem dX5_blast_39 : decode cX5_blast 39 = .ok (.aload_n 0, 1) := by decide +kernel
theorem dX5_blast_40 : decode cX5_blast 40 = .ok (.getfield 26, 3) := by decide +kernel
theorem dX5_blast_43 : decode cX5_blast 43 = .ok (.getfield 253, 3) := by decide +kernel
theorem dX5_blast_46 : decode cX5_blast 46 = .ok (.iload_n 3, 1) := by decide +kernel
theorem dX5_blast_47 : decode cX5_blast 47 = .ok (.laload, 1) := by decide +kernel
theorem dX5_blast_48 : decode cX5_blast 48 = .ok (.aload_n 1, 1) := by decide +kernel
theorem dX5_blast_49 : decode cX5_blast 49 = .ok (.invokevirtual 138, 3) := by decide +kernel
theorem dX5_blast_52 : decode cX5_blast 52 = .ok (.land, 1) := by decide +kernel
theorem dX5_blast_53 : decode cX5_blast 53 = .ok (.lstore 4, 2) := by decide +kernel
theorem dX5_blast_55 : decode cX5_blast 55 = .ok (.iconst 0, 1) := by decide +kernel
theorem dX5_blast_56 : decode cX5_blast 56 = .ok (.istore 6, 2) := by decide +kernel
theorem dX5_blast_58 : decode cX5_blast 58 = .ok (.iload 6, 2) := by decide +kernel
theorem dX5_blast_60 : decode cX5_blast 60 = .ok (.bipush 64, 2) := by decide +kernel
theorem dX5_blast_62 : decode cX5_blast 62 = .ok (.if_icmp .ge 68, 3) := by decide +kernel
theorem dX5_blast_65 : decode cX5_blast 65 = .ok (.lload 4, 2) := by decide +kernel
theorem dX5_blast_67 : decode cX5_blast 67 = .ok (.lconst 0, 1) := by decide +kernel
theorem dX5_blast_68 : decode cX5_blast 68 = .ok (.lcmp, 1) := by decide +kernel
theorem dX5_blast_69 : decode cX5_blast 69 = .ok (.ifCond .eq 61, 3) := by decide +kernel
theorem dX5_blast_72 : decode cX5_blast 72 = .ok (.lload 4, 2) := by decide +kernel
theorem dX5_blast_74 : decode cX5_blast 74 = .ok (.invokestatic 85, 3) := by decide +kernel
theorem dX5_blast_77 : decode cX5_blast 77 = .ok (.istore 7, 2) := by decide +kernel
theorem dX5_blast_79 : decode cX5_blast 79 = .ok (.lload 4, 2) := by decide +kernel
theorem dX5_blast_81 : decode cX5_blast 81 = .ok (.lload 4, 2) := by decide +kernel
theorem dX5_blast_83 : decode cX5_blast 83 = .ok (.lconst 1, 1) := by decide +kernel
theorem dX5_blast_84 : decode cX5_blast 84 = .ok (.lsub, 1) := by decide +kernel
theorem dX5_blast_85 : decode cX5_blast 85 = .ok (.land, 1) := by decide +kernel
theorem dX5_blast_86 : decode cX5_blast 86 = .ok (.lstore 4, 2) := by decide +kernel
theorem dX5_blast_88 : decode cX5_blast 88 = .ok (.aload_n 0, 1) := by decide +kernel
theorem dX5_blast_89 : decode cX5_blast 89 = .ok (.getfield 22, 3) := by decide +kernel
theorem dX5_blast_92 : decode cX5_blast 92 = .ok (.getfield 256, 3) := by decide +kernel
theorem dX5_blast_95 : decode cX5_blast 95 = .ok (.aload_n 1, 1) := by decide +kernel
theorem dX5_blast_96 : decode cX5_blast 96 = .ok (.getfield 42, 3) := by decide +kernel
theorem dX5_blast_99 : decode cX5_blast 99 = .ok (.iload 7, 2) := by decide +kernel
theorem dX5_blast_101 : decode cX5_blast 101 = .ok (.baload, 1) := by decide +kernel
theorem dX5_blast_102 : decode cX5_blast 102 = .ok (.iconst 1, 1) := by decide +kernel
theorem dX5_blast_103 : decode cX5_blast 103 = .ok (.ishr, 1) := by decide +kernel
theorem dX5_blast_104 : decode cX5_blast 104 = .ok (.ishr, 1) := by decide +kernel
theorem dX5_blast_105 : decode cX5_blast 105 = .ok (.iconst 1, 1) := by decide +kernel
theorem dX5_blast_106 : decode cX5_blast 106 = .ok (.iand, 1) := by decide +kernel
theorem dX5_blast_107 : decode cX5_blast 107 = .ok (.ifCond .ne 17, 3) := by decide +kernel
theorem dX5_blast_110 : decode cX5_blast 110 = .ok (.aload_n 1, 1) := by decide +kernel
theorem dX5_blast_111 : decode cX5_blast 111 = .ok (.iload 7, 2) := by decide +kernel
theorem dX5_blast_113 : decode cX5_blast 113 = .ok (.iconst (-1), 1) := by decide +kernel
theorem dX5_blast_114 : decode cX5_blast 114 = .ok (.aload_n 0, 1) := by decide +kernel
theorem dX5_blast_115 : decode cX5_blast 115 = .ok (.getfield 22, 3) := by decide +kernel
theorem dX5_blast_118 : decode cX5_blast 118 = .ok (.getfield 129, 3) := by decide +kernel
theorem dX5_blast_121 : decode cX5_blast 121 = .ok (.invokevirtual 245, 3) := by decide +kernel
theorem dX5_blast_124 : decode cX5_blast 124 = .ok (.iinc 6 1, 3) := by decide +kernel
theorem dX5_blast_127 : decode cX5_blast 127 = .ok (.goto (-69), 3) := by decide +kernel
theorem dX5_blast_130 : decode cX5_blast 130 = .ok (.return_, 1) := by decide +kernel
set_option maxRecDepth 20000 in
theorem moX5_blast_20 {o : Hp} {F : Nat} {h : Hp} (hE : sX5_blast_20 F h  = some o) : Le h o := by
  exact le_some1 hE
set_option maxRecDepth 20000 in
theorem moX5_blast_130 {o : Hp} {F : Nat} {h : Hp} (hE : sX5_blast_130 F h  = some o) : Le h o := by
  exact le_some1 hE
set_option maxRecDepth 20000 in
theorem moX5_blast_124 {o : Hp} {k_58 : Hp → Nat → Nat → Int64 → Int32 → Option (Hp)} {F : Nat} (mk_58 : ∀ (h : Hp) (x0 : Nat) (x1 : Nat) (x4 : Int64) (x6 : Int32), k_58 h x0 x1 x4 x6 = some o → Le h o) {h : Hp} {x0 : Nat} {x1 : Nat} {x4 : Int64} {x6 : Int32} (hE : sX5_blast_124 F k_58 h x0 x1 x4 x6 = some o) : Le h o := by
  obtain ⟨v_1, ev_1, hE⟩ := nm_e2 hE
  exact mk_58 _ _ _ _ _ hE
set_option maxRecDepth 20000 in
theorem moX5_blast_58 {o : Hp} {F : Nat} : ∀ (f : Nat) {h : Hp} {x0 : Nat} {x1 : Nat} {x4 : Int64} {x6 : Int32}, sX5_blast_58 F f h x0 x1 x4 x6 = some o → Le h o := by
  intro f
  induction f with
  | zero =>
    intro h x0 x1 x4 x6 hE
    rw [sX5_blast_58] at hE
    cases hE
  | succ f ih =>
    intro h x0 x1 x4 x6 hE
    rw [sX5_blast_58] at hE
    have mk_58 : ∀ (h : Hp) (x0 : Nat) (x1 : Nat) (x4 : Int64) (x6 : Int32), sX5_blast_58 F f h x0 x1 x4 x6 = some o → Le h o := fun h x0 x1 x4 x6 hE => ih hE
    rcases br_e hE with ⟨_, hE⟩ | ⟨_, hE⟩
    · exact moX5_blast_130 hE
    · rcases br_e hE with ⟨_, hE⟩ | ⟨_, hE⟩
      · exact moX5_blast_130 hE
      · obtain ⟨o_3, eo_3, hE⟩ := cl_e hE
        refine (moX11_lowest eo_3).tr ?_
        obtain ⟨v_4, ev_4, hE⟩ := nm_e2 hE
        obtain ⟨r_5, er_5, hE⟩ := cl_e hE
        obtain ⟨r_6, er_6, hE⟩ := cl_e hE
        obtain ⟨g_7, hE⟩ := gd_e hE
        rcases br_e hE with ⟨_, hE⟩ | ⟨_, hE⟩
        · obtain ⟨r_9, er_9, hE⟩ := cl_e hE
          obtain ⟨o_10, eo_10, hE⟩ := cl_e hE
          refine (moX3_put eo_10).tr ?_
          exact moX5_blast_124 mk_58 hE
        · exact moX5_blast_124 mk_58 hE
set_option maxRecDepth 20000 in
theorem moX5_blast {o : Hp} {F : Nat} {h : Hp} {x0 : Nat} {x1 : Nat} {x2 : Int32} (hE : sX5_blast F h x0 x1 x2 = some o) : Le h o := by
  obtain ⟨r_1, er_1, hE⟩ := cl_e hE
  obtain ⟨o_2, eo_2, hE⟩ := cl_e hE
  refine (moX1_has eo_2).tr ?_
  rcases br_e hE with ⟨_, hE⟩ | ⟨_, hE⟩
  · exact moX5_blast_20 hE
  · obtain ⟨o_4, eo_4, hE⟩ := cl_e hE
    refine (moX5_takenBy eo_4).tr ?_
    rcases br_e hE with ⟨_, hE⟩ | ⟨_, hE⟩
    · exact moX5_blast_20 hE
    · obtain ⟨o_6, eo_6, hE⟩ := cl_e hE
      refine (moX5_comeTo eo_6).tr ?_
      obtain ⟨r_7, er_7, hE⟩ := cl_e hE
      obtain ⟨o_8, eo_8, hE⟩ := cl_e hE
      refine (moX3_put eo_8).tr ?_
      obtain ⟨r_9, er_9, hE⟩ := cl_e hE
      obtain ⟨r_10, er_10, hE⟩ := cl_e hE
      obtain ⟨g_11, hE⟩ := gd_e hE
      obtain ⟨o_12, eo_12, hE⟩ := cl_e hE
      refine (moX3_occupied eo_12).tr ?_
      obtain ⟨v_13, ev_13, hE⟩ := nm_e2 hE
      exact moX5_blast_58 _ hE
set_option maxRecDepth 20000 in
theorem bX5_blast_20 {p : Program} {l : Launch} {e : Env} {s : State} {m : MethodId} {args : Array Value} {below : List Frame} {meth : Method} {c : Code} {X : Ec} {h0 : Hp} {o : Hp} {F : Nat} (C : Cx X p s m args meth c RX5 cX5_blast 8 none "blast") {h : Hp} {H : Heap} {locs : List Loc} (hkm : Km h0 h) (hW : Wx X h H) (hZ : va_S (aA (eB X)) s.heap H locs) (ls : Array Slot) (hl : lv_has ls 8 []) (hE : sX5_blast_20 F h  = some o) : W p l e (rm 1 26) s m args below meth c H locs 0 0 (MQ below (QV X h0 o) args s 0 0 (aA (eB X))) (F0 m 20 ls []) := by
  exact x_vret C rfl hW hZ hkm hE dX5_blast_20
set_option maxRecDepth 20000 in
theorem bX5_blast_130 {p : Program} {l : Launch} {e : Env} {s : State} {m : MethodId} {args : Array Value} {below : List Frame} {meth : Method} {c : Code} {X : Ec} {h0 : Hp} {o : Hp} {F : Nat} (C : Cx X p s m args meth c RX5 cX5_blast 8 none "blast") {h : Hp} {H : Heap} {locs : List Loc} (hkm : Km h0 h) (hW : Wx X h H) (hZ : va_S (aA (eB X)) s.heap H locs) (ls : Array Slot) (hl : lv_has ls 8 []) (hE : sX5_blast_130 F h  = some o) : W p l e (rm 1 26) s m args below meth c H locs 0 0 (MQ below (QV X h0 o) args s 0 0 (aA (eB X))) (F0 m 130 ls []) := by
  exact x_vret C rfl hW hZ hkm hE dX5_blast_130
set_option maxRecDepth 20000 in
theorem bX5_blast_124 {p : Program} {l : Launch} {e : Env} {s : State} {m : MethodId} {args : Array Value} {below : List Frame} {meth : Method} {c : Code} {X : Ec} {h0 : Hp} {o : Hp} {k_58 : Hp → Nat → Nat → Int64 → Int32 → Option (Hp)} {F : Nat} (C : Cx X p s m args meth c RX5 cX5_blast 8 none "blast") (hk_58 : ∀ (h : Hp) (x0 : Nat) (x1 : Nat) (x4 : Int64) (x6 : Int32) (H : Heap) (locs : List Loc), hK h x0 = 5 → hK h x1 = 3 → Km h0 h → Wx X h H → va_S (aA (eB X)) s.heap H locs → ∀ (ls : Array Slot), lv_has ls 8 [(0, .ref x0), (1, .ref x1), (4, .long x4), (6, .int x6)] → k_58 h x0 x1 x4 x6 = some o → W p l e (rm 1 26) s m args below meth c H locs 0 0 (MQ below (QV X h0 o) args s 0 0 (aA (eB X))) (F0 m 58 ls [])) {h : Hp} {x0 : Nat} {x1 : Nat} {x4 : Int64} {x6 : Int32} {H : Heap} {locs : List Loc} (k_x0 : hK h x0 = 5) (k_x1 : hK h x1 = 3) (hkm : Km h0 h) (hW : Wx X h H) (hZ : va_S (aA (eB X)) s.heap H locs) (ls : Array Slot) (hl : lv_has ls 8 [(0, .ref x0), (1, .ref x1), (4, .long x4), (6, .int x6)]) (hE : sX5_blast_124 F k_58 h x0 x1 x4 x6 = some o) : W p l e (rm 1 26) s m args below meth c H locs 0 0 (MQ below (QV X h0 o) args s 0 0 (aA (eB X))) (F0 m 124 ls []) := by
  obtain ⟨v_1, ev_1, hE⟩ := nm_e2 hE
  refine lv_iinc (v := v_1) (lv' := [(6, .int v_1), (0, .ref x0), (1, .ref x1), (4, .long x4)]) C.1 C.2.1 dX5_blast_124 hl (k := 3) rfl (by rw [ev_1]; rfl) (by decide) rfl (fun ls hl => ?_)
  refine lv_goto (tgt := 58) C.1 C.2.1 dX5_blast_127 (by decide) ?_
  exact hk_58 _ _ _ _ _ _ _ k_x0 k_x1 hkm hW hZ _ (lv_sub hl [1, 2, 3, 0] rfl) hE
set_option maxRecDepth 20000 in
theorem bX5_blast_58 {p : Program} {l : Launch} {e : Env} {s : State} {m : MethodId} {args : Array Value} {below : List Frame} {meth : Method} {c : Code} {X : Ec} {h0 : Hp} {o : Hp} {F : Nat} (C : Cx X p s m args meth c RX5 cX5_blast 8 none "blast") : ∀ (f : Nat) {h : Hp} {x0 : Nat} {x1 : Nat} {x4 : Int64} {x6 : Int32} {H : Heap} {locs : List Loc} (k_x0 : hK h x0 = 5) (k_x1 : hK h x1 = 3), Km h0 h → Wx X h H → va_S (aA (eB X)) s.heap H locs → ∀ (ls : Array Slot), lv_has ls 8 [(0, .ref x0), (1, .ref x1), (4, .long x4), (6, .int x6)] → sX5_blast_58 F f h x0 x1 x4 x6 = some o → W p l e (rm 1 26) s m args below meth c H locs 0 0 (MQ below (QV X h0 o) args s 0 0 (aA (eB X))) (F0 m 58 ls []) := by
  intro f
  induction f with
  | zero =>
    intro h x0 x1 x4 x6 H locs k_x0 k_x1 hkm hW hZ ls hl hE
    rw [sX5_blast_58] at hE
    cases hE
  | succ f ih =>
    intro h x0 x1 x4 x6 H locs k_x0 k_x1 hkm hW hZ ls hl hE
    rw [sX5_blast_58] at hE
    have hk_58 : ∀ (h : Hp) (x0 : Nat) (x1 : Nat) (x4 : Int64) (x6 : Int32) (H : Heap) (locs : List Loc), hK h x0 = 5 → hK h x1 = 3 → Km h0 h → Wx X h H → va_S (aA (eB X)) s.heap H locs → ∀ (ls : Array Slot), lv_has ls 8 [(0, .ref x0), (1, .ref x1), (4, .long x4), (6, .int x6)] → sX5_blast_58 F f h x0 x1 x4 x6 = some o → W p l e (rm 1 26) s m args below meth c H locs 0 0 (MQ below (QV X h0 o) args s 0 0 (aA (eB X))) (F0 m 58 ls []) := fun h x0 x1 x4 x6 H locs k_x0 k_x1 a b c ls hl hE => ih k_x0 k_x1 a b c ls hl hE
    refine lv_iload C.1 C.2.1 dX5_blast_58 (lv_at hl 3 rfl) ?_
    refine lv_bipush (v := (64 : Int32)) C.1 C.2.1 dX5_blast_60 (by decide) ?_
    refine lv_icmp_ge (tgt := 130) C.1 C.2.1 dX5_blast_62 (by decide) (fun c_1 => ?_) (fun c_1 => ?_)
    · have hE := br_p hE c_1
      exact bX5_blast_130 C hkm hW hZ _ (lv_sub hl [] rfl) hE
    · have hE := br_n hE c_1
      refine lv_lload C.1 C.2.1 dX5_blast_65 (lv_at hl 2 rfl) ?_
      refine lv_lconst (v := (0 : Int64)) C.1 C.2.1 dX5_blast_67 (by decide) ?_
      refine W.lcmp C.1 C.2.1 dX5_blast_68 ?_
      refine lv_if_eq (tgt := 130) C.1 C.2.1 dX5_blast_69 (by decide) (fun c_2 => ?_) (fun c_2 => ?_)
      · have hE := br_p hE c_2
        exact bX5_blast_130 C hkm hW hZ _ (lv_sub hl [] rfl) hE
      · have hE := br_n hE c_2
        refine lv_lload C.1 C.2.1 dX5_blast_72 (lv_at hl 2 rfl) ?_
        obtain ⟨o_3, eo_3, hE⟩ := cl_e hE
        refine x_kI (o := o_3) (x_runSN (As := [.long x4]) (rest := []) C (ct_X11_lowest l X eo_3) cn_X5_85 hW hZ rfl hl.1 (Nat.le_of_ble_eq_true rfl) rfl dX5_blast_74 ⟨Nat.le_of_ble_eq_true rfl, Nat.le_of_ble_eq_true rfl⟩ ⟨Nat.le_refl _, Nat.le_refl _⟩) hZ (fun _ _ hW km hZ => ?_)
        replace hkm := hkm.tr km
        replace k_x0 := km.at k_x0 (by decide)
        replace k_x1 := km.at k_x1 (by decide)
        refine lv_istore (lv' := [(7, .int o_3.1), (0, .ref x0), (1, .ref x1), (4, .long x4), (6, .int x6)]) C.1 C.2.1 dX5_blast_77 hl (by decide) rfl (fun ls hl => ?_)
        refine lv_lload C.1 C.2.1 dX5_blast_79 (lv_at hl 3 rfl) ?_
        refine lv_lload C.1 C.2.1 dX5_blast_81 (lv_at hl 3 rfl) ?_
        refine lv_lconst (v := (1 : Int64)) C.1 C.2.1 dX5_blast_83 (by decide) ?_
        refine lv_lsub C.1 C.2.1 dX5_blast_84 ?_
        refine lv_land C.1 C.2.1 dX5_blast_85 ?_
        obtain ⟨v_4, ev_4, hE⟩ := nm_e2 hE
        refine x_nmJ ev_4 ?_
        refine lv_lstore (lv' := [(4, .long v_4), (7, .int o_3.1), (0, .ref x0), (1, .ref x1), (6, .int x6)]) C.1 C.2.1 dX5_blast_86 hl (by decide) rfl (fun ls hl => ?_)
        refine lv_aload_n C.1 C.2.1 dX5_blast_88 rfl (lv_at hl 2 rfl) ?_
        obtain ⟨r_5, er_5, hE⟩ := cl_e hE
        refine gf_X5_22 C hW k_x0 er_5 dX5_blast_89 (fun k_r_5 => ?_)
        refine gf_X5_256 C hW k_r_5 dX5_blast_92 ?_
        refine lv_aload_n C.1 C.2.1 dX5_blast_95 rfl (lv_at hl 3 rfl) ?_
        obtain ⟨r_6, er_6, hE⟩ := cl_e hE
        refine gf_X5_42 C hW k_x1 er_6 dX5_blast_96 (fun k_r_6 => ?_)
        refine lv_iload C.1 C.2.1 dX5_blast_99 (lv_at hl 1 rfl) ?_
        obtain ⟨g_7, hE⟩ := gd_e hE
        refine y_bald C hW k_r_6 g_7 dX5_blast_101 ?_
        refine lv_iconst (v := (1 : Int32)) C.1 C.2.1 dX5_blast_102 (by decide) ?_
        refine lv_ishr C.1 C.2.1 dX5_blast_103 ?_
        refine lv_ishr C.1 C.2.1 dX5_blast_104 ?_
        refine lv_iconst (v := (1 : Int32)) C.1 C.2.1 dX5_blast_105 (by decide) ?_
        refine lv_iand C.1 C.2.1 dX5_blast_106 ?_
        refine lv_if_ne (tgt := 124) C.1 C.2.1 dX5_blast_107 (by decide) (fun c_8 => ?_) (fun c_8 => ?_)
        · have hE := br_n hE c_8
          exact bX5_blast_124 C hk_58 k_x0 k_x1 hkm hW hZ _ (lv_sub hl [2, 3, 0, 4] rfl) hE
        · have hE := br_p hE c_8
          refine lv_aload_n C.1 C.2.1 dX5_blast_110 rfl (lv_at hl 3 rfl) ?_
          refine lv_iload C.1 C.2.1 dX5_blast_111 (lv_at hl 1 rfl) ?_
          refine lv_iconst (v := (-1 : Int32)) C.1 C.2.1 dX5_blast_113 (by decide) ?_
          refine lv_aload_n C.1 C.2.1 dX5_blast_114 rfl (lv_at hl 2 rfl) ?_
          obtain ⟨r_9, er_9, hE⟩ := cl_e hE
          refine gf_X5_22 C hW k_x0 er_9 dX5_blast_115 (fun k_r_9 => ?_)
          refine gf_X5_129 C hW k_r_9 dX5_blast_118 ?_
          obtain ⟨o_10, eo_10, hE⟩ := cl_e hE
          refine x_kV (o := o_10) (z_runV (As := [.int o_3.1, .int (-1 : Int32), .int (hI o_3.2 r_9 4)]) (rest := []) C (ct_X3_put l X k_x1 eo_10) cw_X5_245 hW hZ k_x1 (by decide) rfl rfl rfl hl.1 (Nat.le_of_ble_eq_true rfl) rfl dX5_blast_121 ⟨Nat.le_of_ble_eq_true rfl, Nat.le_of_ble_eq_true rfl⟩ ⟨Nat.le_refl _, Nat.le_refl _⟩) hZ (fun _ _ hW km hZ => ?_)
          replace hkm := hkm.tr km
          replace k_x0 := km.at k_x0 (by decide)
          replace k_x1 := km.at k_x1 (by decide)
          exact bX5_blast_124 C hk_58 k_x0 k_x1 hkm hW hZ _ (lv_sub hl [2, 3, 0, 4] rfl) hE
set_option maxRecDepth 20000 in
theorem ct_X5_blast (l : Launch) (X : Ec) (F : Nat) {h : Hp} {x0 : Nat} {x1 : Nat} {x2 : Int32} {o : Hp} (k_x0 : hK h x0 = 5) (k_x1 : hK h x1 = 3) (hE : sX5_blast F h x0 x1 x2 = some o) : MetV l yX5_blast cX5_blast 8 none 1 26 X [.ref x0, .ref x1, .int x2] h o := by
  refine x_met (by decide) (Nat.le_of_ble_eq_true rfl) ?_
  intro p e s m below meth c ls C hl hW hZ
  have hl : lv_has ls 8 [(0, .ref x0), (1, .ref x1), (2, .int x2)] := hl
  have hkm : Km h h := Km.rf h
  refine lv_aload_n C.1 C.2.1 dX5_blast_0 rfl (lv_at hl 0 rfl) ?_
  obtain ⟨r_1, er_1, hE⟩ := cl_e hE
  refine gf_X5_22 C hW k_x0 er_1 dX5_blast_1 (fun k_r_1 => ?_)
  refine lv_bipush (v := (8 : Int32)) C.1 C.2.1 dX5_blast_4 (by decide) ?_
  obtain ⟨o_2, eo_2, hE⟩ := cl_e hE
  refine x_kI (o := o_2) (z_runV (As := [.int (8 : Int32)]) (rest := []) C (ct_X1_has l X k_r_1 eo_2) cw_X5_104 hW hZ k_r_1 (by decide) rfl rfl rfl hl.1 (Nat.le_of_ble_eq_true rfl) rfl dX5_blast_6 ⟨Nat.le_of_ble_eq_true rfl, Nat.le_of_ble_eq_true rfl⟩ ⟨Nat.le_refl _, Nat.le_refl _⟩) hZ (fun _ _ hW km hZ => ?_)
  replace hkm := hkm.tr km
  replace k_x0 := km.at k_x0 (by decide)
  replace k_x1 := km.at k_x1 (by decide)
  refine lv_if_eq (tgt := 20) C.1 C.2.1 dX5_blast_9 (by decide) (fun c_3 => ?_) (fun c_3 => ?_)
  · have hE := br_p hE c_3
    exact bX5_blast_20 C hkm hW hZ _ (lv_sub hl [] rfl) hE
  · have hE := br_n hE c_3
    refine lv_iload_n C.1 C.2.1 dX5_blast_12 rfl (lv_at hl 2 rfl) ?_
    obtain ⟨o_4, eo_4, hE⟩ := cl_e hE
    refine x_kI (o := o_4) (z_runS (As := [.int x2]) (rest := []) C (ct_X5_takenBy l X eo_4) cw_X5_181 hW hZ rfl hl.1 (Nat.le_of_ble_eq_true rfl) rfl dX5_blast_13 ⟨Nat.le_of_ble_eq_true rfl, Nat.le_of_ble_eq_true rfl⟩ ⟨Nat.le_refl _, Nat.le_refl _⟩) hZ (fun _ _ hW km hZ => ?_)
    replace hkm := hkm.tr km
    replace k_x0 := km.at k_x0 (by decide)
    replace k_x1 := km.at k_x1 (by decide)
    refine lv_iconst (v := (-1 : Int32)) C.1 C.2.1 dX5_blast_16 (by decide) ?_
    refine lv_icmp_ne (tgt := 21) C.1 C.2.1 dX5_blast_17 (by decide) (fun c_5 => ?_) (fun c_5 => ?_)
    · have hE := br_n hE c_5
      refine lv_iload_n C.1 C.2.1 dX5_blast_21 rfl (lv_at hl 2 rfl) ?_
      obtain ⟨o_6, eo_6, hE⟩ := cl_e hE
      refine x_kI (o := o_6) (z_runS (As := [.int x2]) (rest := []) C (ct_X5_comeTo l X eo_6) cw_X5_184 hW hZ rfl hl.1 (Nat.le_of_ble_eq_true rfl) rfl dX5_blast_22 ⟨Nat.le_of_ble_eq_true rfl, Nat.le_of_ble_eq_true rfl⟩ ⟨Nat.le_refl _, Nat.le_refl _⟩) hZ (fun _ _ hW km hZ => ?_)
      replace hkm := hkm.tr km
      replace k_x0 := km.at k_x0 (by decide)
      replace k_x1 := km.at k_x1 (by decide)
      refine lv_istore_n (lv' := [(3, .int o_6.1), (0, .ref x0), (1, .ref x1), (2, .int x2)]) C.1 C.2.1 dX5_blast_25 rfl hl (by decide) rfl (fun ls hl => ?_)
      refine lv_aload_n C.1 C.2.1 dX5_blast_26 rfl (lv_at hl 2 rfl) ?_
      refine lv_iload_n C.1 C.2.1 dX5_blast_27 rfl (lv_at hl 0 rfl) ?_
      refine lv_iconst (v := (-1 : Int32)) C.1 C.2.1 dX5_blast_28 (by decide) ?_
      refine lv_aload_n C.1 C.2.1 dX5_blast_29 rfl (lv_at hl 1 rfl) ?_
      obtain ⟨r_7, er_7, hE⟩ := cl_e hE
      refine gf_X5_22 C hW k_x0 er_7 dX5_blast_30 (fun k_r_7 => ?_)
      refine gf_X5_129 C hW k_r_7 dX5_blast_33 ?_
      obtain ⟨o_8, eo_8, hE⟩ := cl_e hE
      refine x_kV (o := o_8) (z_runV (As := [.int o_6.1, .int (-1 : Int32), .int (hI o_6.2 r_7 4)]) (rest := []) C (ct_X3_put l X k_x1 eo_8) cw_X5_245 hW hZ k_x1 (by decide) rfl rfl rfl hl.1 (Nat.le_of_ble_eq_true rfl) rfl dX5_blast_36 ⟨Nat.le_of_ble_eq_true rfl, Nat.le_of_ble_eq_true rfl⟩ ⟨Nat.le_refl _, Nat.le_refl _⟩) hZ (fun _ _ hW km hZ => ?_)
      replace hkm := hkm.tr km
      replace k_x0 := km.at k_x0 (by decide)
      replace k_x1 := km.at k_x1 (by decide)
      refine lv_aload_n C.1 C.2.1 dX5_blast_39 rfl (lv_at hl 1 rfl) ?_
      obtain ⟨r_9, er_9, hE⟩ := cl_e hE
      refine gf_X5_26 C hW k_x0 er_9 dX5_blast_40 (fun k_r_9 => ?_)
      obtain ⟨r_10, er_10, hE⟩ := cl_e hE
      refine gf_X5_253 C hW k_r_9 er_10 dX5_blast_43 (fun k_r_10 => ?_)
      refine lv_iload_n C.1 C.2.1 dX5_blast_46 rfl (lv_at hl 0 rfl) ?_
      obtain ⟨g_11, hE⟩ := gd_e hE
      refine y_lald C hW k_r_10 g_11 dX5_blast_47 ?_
      refine lv_aload_n C.1 C.2.1 dX5_blast_48 rfl (lv_at hl 2 rfl) ?_
      obtain ⟨o_12, eo_12, hE⟩ := cl_e hE
      refine x_kJ (o := o_12) (z_runV (As := []) (rest := [.long (hJ o_8 r_10 o_6.1.toNatClampNeg)]) C (ct_X3_occupied l X k_x1 eo_12) cw_X5_138 hW hZ k_x1 (by decide) rfl rfl rfl hl.1 (Nat.le_of_ble_eq_true rfl) rfl dX5_blast_49 ⟨Nat.le_of_ble_eq_true rfl, Nat.le_of_ble_eq_true rfl⟩ ⟨Nat.le_refl _, Nat.le_refl _⟩) hZ (fun _ _ hW km hZ => ?_)
      replace hkm := hkm.tr km
      replace k_x0 := km.at k_x0 (by decide)
      replace k_x1 := km.at k_x1 (by decide)
      refine lv_land C.1 C.2.1 dX5_blast_52 ?_
      obtain ⟨v_13, ev_13, hE⟩ := nm_e2 hE
      refine x_nmJ ev_13 ?_
      refine lv_lstore (lv' := [(4, .long v_13), (3, .int o_6.1), (0, .ref x0), (1, .ref x1), (2, .int x2)]) C.1 C.2.1 dX5_blast_53 hl (by decide) rfl (fun ls hl => ?_)
      refine lv_iconst (v := (0 : Int32)) C.1 C.2.1 dX5_blast_55 (by decide) ?_
      refine lv_istore (lv' := [(6, .int (0 : Int32)), (4, .long v_13), (3, .int o_6.1), (0, .ref x0), (1, .ref x1), (2, .int x2)]) C.1 C.2.1 dX5_blast_56 hl (by decide) rfl (fun ls hl => ?_)
      exact bX5_blast_58 C F k_x0 k_x1 hkm hW hZ _ (lv_sub hl [3, 4, 1, 0] rfl) hE
    · have hE := br_p hE c_5
      exact bX5_blast_20 C hkm hW hZ _ (lv_sub hl [] rfl) hE
