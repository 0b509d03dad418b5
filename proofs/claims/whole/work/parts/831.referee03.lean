set_option maxRecDepth 100000 in
theorem m_1180 : Cond.constant RX5 30 (983040 : Int32) ∈ W0 := w0_in (List.mem_append_right _ (List.mem_of_getElem? (i := 1180) rfl)) rfl
set_option maxRecDepth 100000 in
theorem m_1181 : Cond.constant RX5 31 (15728640 : Int32) ∈ W0 := w0_in (List.mem_append_right _ (List.mem_of_getElem? (i := 1181) rfl)) rfl
theorem dX5_plainMove_0 : decode cX5_plainMove 0 = .ok (.iload_n 1, 1) := by decide +kernel
theorem dX5_plainMove_1 : decode cX5_plainMove 1 = .ok (.iload_n 0, 1) := by decide +kernel
theorem dX5_plainMove_2 : decode cX5_plainMove 2 = .ok (.bipush 6, 2) := by decide +kernel
theorem dX5_plainMove_4 : decode cX5_plainMove 4 = .ok (.ishl, 1) := by decide +kernel
theorem dX5_plainMove_5 : decode cX5_plainMove 5 = .ok (.ior, 1) := by decide +kernel
theorem dX5_plainMove_6 : decode cX5_plainMove 6 = .ok (.iload_n 2, 1) := by decide +kernel
theorem dX5_plainMove_7 : decode cX5_plainMove 7 = .ok (.bipush 12, 2) := by decide +kernel
theorem dX5_plainMove_9 : decode cX5_plainMove 9 = .ok (.ishl, 1) := by decide +kernel
theorem dX5_plainMove_10 : decode cX5_plainMove 10 = .ok (.ior, 1) := by decide +kernel
theorem dX5_plainMove_11 : decode cX5_plainMove 11 = .ok (.ldc 30, 2) := by decide +kernel
theorem dX5_plainMove_13 : decode cX5_plainMove 13 = .ok (.ior, 1) := by decide +kernel
theorem dX5_plainMove_14 : decode cX5_plainMove 14 = .ok (.ldc 31, 2) := by decide +kernel
theorem dX5_plainMove_16 : decode cX5_plainMove 16 = .ok (.ior, 1) := by decide +kernel
theorem dX5_plainMove_17 : decode cX5_plainMove 17 = .ok (.iload_n 3, 1) := by decide +kernel
theorem dX5_plainMove_18 : decode cX5_plainMove 18 = .ok (.bipush 24, 2) := by decide +kernel
theorem dX5_plainMove_20 : decode cX5_plainMove 20 = .ok (.ishl, 1) := by decide +kernel
theorem dX5_plainMove_21 : decode cX5_plainMove 21 = .ok (.ior, 1) := by decide +kernel
theorem dX5_plainMove_22 : decode cX5_plainMove 22 = .ok (.ireturn, 1) := by decide +kernel
set_option maxRecDepth 20000 in
theorem moX5_plainMove {o : Int32 × Hp} {h : Hp} {x0 : Int32} {x1 : Int32} {x2 : Int32} {x3 : Int32} (hE : sX5_plainMove h x0 x1 x2 x3 = some o) : Le h o.2 := by
  exact le_some2 hE
set_option maxRecDepth 20000 in
theorem ct_X5_plainMove (l : Launch) (X : Ec) {h : Hp} {x0 : Int32} {x1 : Int32} {x2 : Int32} {x3 : Int32} {o : Int32 × Hp} (hE : sX5_plainMove h x0 x1 x2 x3 = some o) : MetI l yX5_plainMove cX5_plainMove 4 (some .int) 0 0 X [.int x0, .int x1, .int x2, .int x3] h o := by
  refine x_met (by decide) (Nat.le_of_ble_eq_true rfl) ?_
  intro p e s m below meth c ls C hl hW hZ
  have hl : lv_has ls 4 [(0, .int x0), (1, .int x1), (2, .int x2), (3, .int x3)] := hl
  have hkm : Km h h := Km.rf h
  refine lv_iload_n C.1 C.2.1 dX5_plainMove_0 rfl (lv_at hl 1 rfl) ?_
  refine lv_iload_n C.1 C.2.1 dX5_plainMove_1 rfl (lv_at hl 0 rfl) ?_
  refine lv_bipush (v := (6 : Int32)) C.1 C.2.1 dX5_plainMove_2 (by decide) ?_
  refine lv_ishl C.1 C.2.1 dX5_plainMove_4 ?_
  refine lv_ior C.1 C.2.1 dX5_plainMove_5 ?_
  refine lv_iload_n C.1 C.2.1 dX5_plainMove_6 rfl (lv_at hl 2 rfl) ?_
  refine lv_bipush (v := (12 : Int32)) C.1 C.2.1 dX5_plainMove_7 (by decide) ?_
  refine lv_ishl C.1 C.2.1 dX5_plainMove_9 ?_
  refine lv_ior C.1 C.2.1 dX5_plainMove_10 ?_
  refine lv_ldc (v := (983040 : Int32)) C.1 C.2.1 C.2.2.2.1 (C.2.2.2.2.1 _ m_1180) dX5_plainMove_11 ?_
  refine lv_ior C.1 C.2.1 dX5_plainMove_13 ?_
  refine lv_ldc (v := (15728640 : Int32)) C.1 C.2.1 C.2.2.2.1 (C.2.2.2.2.1 _ m_1181) dX5_plainMove_14 ?_
  refine lv_ior C.1 C.2.1 dX5_plainMove_16 ?_
  refine lv_iload_n C.1 C.2.1 dX5_plainMove_17 rfl (lv_at hl 3 rfl) ?_
  refine lv_bipush (v := (24 : Int32)) C.1 C.2.1 dX5_plainMove_18 (by decide) ?_
  refine lv_ishl C.1 C.2.1 dX5_plainMove_20 ?_
  refine lv_ior C.1 C.2.1 dX5_plainMove_21 ?_
  exact x_iret C rfl rfl hW hZ hkm hE dX5_plainMove_22
set_option maxRecDepth 100000 in
theorem m_1177 : Cond.methodLink RX5 176 yX5_plainMove ∈ W0 := w0_in (List.mem_append_right _ (List.mem_of_getElem? (i := 1177) rfl)) rfl
set_option maxRecDepth 100000 in
theorem m_1178 : Cond.static yX5_plainMove ∈ W0 := w0_in (List.mem_append_right _ (List.mem_of_getElem? (i := 1178) rfl)) rfl
set_option maxRecDepth 100000 in
theorem m_1179 : Cond.code yX5_plainMove cX5_plainMove 4 (some .int) ∈ W0 := w0_in (List.mem_append_right _ (List.mem_of_getElem? (i := 1179) rfl)) rfl
set_option maxRecDepth 100000 in
theorem m_1182 : Cond.constant RX5 180 (-15728641 : Int32) ∈ W0 := w0_in (List.mem_append_right _ (List.mem_of_getElem? (i := 1182) rfl)) rfl
theorem cw_X5_176 : cwd RX5 176 yX5_plainMove cX5_plainMove 4 (some .int) true 4 := ⟨m_1179, m_1177, m_7, m_1178, by decide, by decide, by decide +kernel⟩
theorem dX5_moveAlong_0 : decode cX5_moveAlong 0 = .ok (.aload_n 0, 1) := by decide +kernel
theorem dX5_moveAlong_1 : decode cX5_moveAlong 1 = .ok (.getfield 26, 3) := by decide +kernel
theorem dX5_moveAlong_4 : decode cX5_moveAlong 4 = .ok (.getfield 54, 3) := by decide +kernel
theorem dX5_moveAlong_7 : decode cX5_moveAlong 7 = .ok (.iload_n 1, 1) := by decide +kernel
theorem dX5_moveAlong_8 : decode cX5_moveAlong 8 = .ok (.iaload, 1) := by decide +kernel
theorem dX5_moveAlong_9 : decode cX5_moveAlong 9 = .ok (.bipush 63, 2) := by decide +kernel
theorem dX5_moveAlong_11 : decode cX5_moveAlong 11 = .ok (.iand, 1) := by decide +kernel
theorem dX5_moveAlong_12 : decode cX5_moveAlong 12 = .ok (.istore 4, 2) := by decide +kernel
theorem dX5_moveAlong_14 : decode cX5_moveAlong 14 = .ok (.aload_n 0, 1) := by decide +kernel
theorem dX5_moveAlong_15 : decode cX5_moveAlong 15 = .ok (.getfield 26, 3) := by decide +kernel
theorem dX5_moveAlong_18 : decode cX5_moveAlong 18 = .ok (.getfield 54, 3) := by decide +kernel
theorem dX5_moveAlong_21 : decode cX5_moveAlong 21 = .ok (.iload_n 1, 1) := by decide +kernel
theorem dX5_moveAlong_22 : decode cX5_moveAlong 22 = .ok (.iaload, 1) := by decide +kernel
theorem dX5_moveAlong_23 : decode cX5_moveAlong 23 = .ok (.bipush 6, 2) := by decide +kernel
theorem dX5_moveAlong_25 : decode cX5_moveAlong 25 = .ok (.ishr, 1) := by decide +kernel
theorem dX5_moveAlong_26 : decode cX5_moveAlong 26 = .ok (.bipush 63, 2) := by decide +kernel
theorem dX5_moveAlong_28 : decode cX5_moveAlong 28 = .ok (.iand, 1) := by decide +kernel
theorem dX5_moveAlong_29 : decode cX5_moveAlong 29 = .ok (.istore 5, 2) := by decide +kernel
theorem dX5_moveAlong_31 : decode cX5_moveAlong 31 = .ok (.aload_n 0, 1) := by decide +kernel
theorem dX5_moveAlong_32 : decode cX5_moveAlong 32 = .ok (.getfield 26, 3) := by decide +kernel
theorem dX5_moveAlong_35 : decode cX5_moveAlong 35 = .ok (.getfield 54, 3) := by decide +kernel
theorem dX5_moveAlong_38 : decode cX5_moveAlong 38 = .ok (.iload_n 1, 1) := by decide +kernel
theorem dX5_moveAlong_39 : decode cX5_moveAlong 39 = .ok (.iaload, 1) := by decide +kernel
theorem dX5_moveAlong_40 : decode cX5_moveAlong 40 = .ok (.bipush 12, 2) := by decide +kernel
theorem dX5_moveAlong_42 : decode cX5_moveAlong 42 = .ok (.ishr, 1) := by decide +kernel
theorem dX5_moveAlong_43 : decode cX5_moveAlong 43 = .ok (.istore 6, 2) := by decide +kernel
theorem dX5_moveAlong_45 : decode cX5_moveAlong 45 = .ok (.iload 5, 2) := by decide +kernel
theorem dX5_moveAlong_47 : decode cX5_moveAlong 47 = .ok (.bipush 32, 2) := by decide +kernel
theorem dX5_moveAlong_49 : decode cX5_moveAlong 49 = .ok (.iand, 1) := by decide +kernel
theorem dX5_moveAlong_50 : decode cX5_moveAlong 50 = .ok (.ifCond .eq 24, 3) := by decide +kernel
theorem dX5_moveAlong_53 : decode cX5_moveAlong 53 = .ok (.aload_n 0, 1) := by decide +kernel
theorem dX5_moveAlong_54 : decode cX5_moveAlong 54 = .ok (.getfield 71, 3) := by decide +kernel
theorem dX5_moveAlong_57 : decode cX5_moveAlong 57 = .ok (.getfield 150, 3) := by decide +kernel
theorem dX5_moveAlong_60 : decode cX5_moveAlong 60 = .ok (.iload 4, 2) := by decide +kernel
theorem dX5_moveAlong_62 : decode cX5_moveAlong 62 = .ok (.lushr, 1) := by decide +kernel
theorem dX5_moveAlong_63 : decode cX5_moveAlong 63 = .ok (.lconst 1, 1) := by decide +kernel
theorem dX5_moveAlong_64 : decode cX5_moveAlong 64 = .ok (.land, 1) := by decide +kernel
theorem dX5_moveAlong_65 : decode cX5_moveAlong 65 = .ok (.lconst 0, 1) := by decide +kernel
theorem dX5_moveAlong_66 : decode cX5_moveAlong 66 = .ok (.lcmp, 1) := by decide +kernel
theorem dX5_moveAlong_67 : decode cX5_moveAlong 67 = .ok (.ifCond .eq 7, 3) := by decide +kernel
theorem dX5_moveAlong_70 : decode cX5_moveAlong 70 = .ok (.iconst 1, 1) := by decide +kernel
theorem dX5_moveAlong_71 : decode cX5_moveAlong 71 = .ok (.goto 4, 3) := by decide +kernel
theorem dX5_moveAlong_74 : decode cX5_moveAlong 74 = .ok (.iconst 0, 1) := by decide +kernel
theorem dX5_moveAlong_75 : decode cX5_moveAlong 75 = .ok (.istore 7, 2) := by decide +kernel
theorem dX5_moveAlong_77 : decode cX5_moveAlong 77 = .ok (.iload 7, 2) := by decide +kernel
theorem dX5_moveAlong_79 : decode cX5_moveAlong 79 = .ok (.ifCond .eq 22, 3) := by decide +kernel
theorem dX5_moveAlong_82 : decode cX5_moveAlong 82 = .ok (.aload_n 0, 1) := by decide +kernel
theorem dX5_moveAlong_83 : decode cX5_moveAlong 83 = .ok (.getfield 71, 3) := by decide +kernel
theorem dX5_moveAlong_86 : decode cX5_moveAlong 86 = .ok (.getfield 42, 3) := by decide +kernel
theorem dX5_moveAlong_89 : decode cX5_moveAlong 89 = .ok (.aload_n 0, 1) := by decide +kernel
theorem dX5_moveAlong_90 : decode cX5_moveAlong 90 = .ok (.getfield 71, 3) := by decide +kernel
theorem dX5_moveAlong_93 : decode cX5_moveAlong 93 = .ok (.iconst 0, 1) := by decide +kernel
theorem dX5_moveAlong_94 : decode cX5_moveAlong 94 = .ok (.invokevirtual 173, 3) := by decide +kernel
theorem dX5_moveAlong_97 : decode cX5_moveAlong 97 = .ok (.baload, 1) := by decide +kernel
theorem dX5_moveAlong_98 : decode cX5_moveAlong 98 = .ok (.goto 13, 3) := by decide +kernel
theorem dX5_moveAlong_101 : decode cX5_moveAlong 101 = .ok (.aload_n 0, 1) := by decide +kernel
theorem dX5_moveAlong_102 : decode cX5_moveAlong 102 = .ok (.getfield 71, 3) := by decide +kernel
theorem dX5_moveAlong_105 : decode cX5_moveAlong 105 = .ok (.getfield 42, 3) := by decide +kernel
theorem dX5_moveAlong_108 : decode cX5_moveAlong 108 = .ok (.iload 4, 2) := by decide +kernel
theorem dX5_moveAlong_110 : decode cX5_moveAlong 110 = .ok (.baload, 1) := by decide +kernel
theorem dX5_moveAlong_111 : decode cX5_moveAlong 111 = .ok (.istore 8, 2) := by decide +kernel
theorem dX5_moveAlong_113 : decode cX5_moveAlong 113 = .ok (.iload_n 2, 1) := by decide +kernel
theorem dX5_moveAlong_114 : decode cX5_moveAlong 114 = .ok (.iload 4, 2) := by decide +kernel
theorem dX5_moveAlong_116 : decode cX5_moveAlong 116 = .ok (.iload_n 3, 1) := by decide +kernel
theorem dX5_moveAlong_117 : decode cX5_moveAlong 117 = .ok (.iconst 1, 1) := by decide +kernel
theorem dX5_moveAlong_118 : decode cX5_moveAlong 118 = .ok (.ishr, 1) := by decide +kernel
theorem dX5_moveAlong_119 : decode cX5_moveAlong 119 = .ok (.iload 7, 2) := by decide +kernel
theorem dX5_moveAlong_121 : decode cX5_moveAlong 121 = .ok (.ifCond .eq 7, 3) := by decide +kernel
theorem dX5_moveAlong_124 : decode cX5_moveAlong 124 = .ok (.iconst 1, 1) := by decide +kernel
theorem dX5_moveAlong_125 : decode cX5_moveAlong 125 = .ok (.goto 4, 3) := by decide +kernel
theorem dX5_moveAlong_128 : decode cX5_moveAlong 128 = .ok (.iconst 0, 1) := by decide +kernel
theorem dX5_moveAlong_129 : decode cX5_moveAlong 129 = .ok (.invokestatic 176, 3) := by decide +kernel
theorem dX5_moveAlong_132 : decode cX5_moveAlong 132 = .ok (.istore 9, 2) := by decide +kernel
theorem dX5_moveAlong_134 : decode cX5_moveAlong 134 = .ok (.iload 8, 2) := by decide +kernel
theorem dX5_moveAlong_136 : decode cX5_moveAlong 136 = .ok (.ifCond .lt 18, 3) := by decide +kernel
theorem dX5_moveAlong_139 : decode cX5_moveAlong 139 = .ok (.iload 9, 2) := by decide +kernel
theorem dX5_moveAlong_141 : decode cX5_moveAlong 141 = .ok (.ldc 180, 2) := by decide +kernel
theorem dX5_moveAlong_143 : decode cX5_moveAlong 143 = .ok (.iand, 1) := by decide +kernel
theorem dX5_moveAlong_144 : decode cX5_moveAlong 144 = .ok (.iload 8, 2) := by decide +kernel
theorem dX5_moveAlong_146 : decode cX5_moveAlong 146 = .ok (.iconst 1, 1) := by decide +kernel
theorem dX5_moveAlong_147 : decode cX5_moveAlong 147 = .ok (.ishr, 1) := by decide +kernel
theorem dX5_moveAlong_148 : decode cX5_moveAlong 148 = .ok (.bipush 20, 2) := by decide +kernel
theorem dX5_moveAlong_150 : decode cX5_moveAlong 150 = .ok (.ishl, 1) := by decide +kernel
theorem dX5_moveAlong_151 : decode cX5_moveAlong 151 = .ok (.ior, 1) := by decide +kernel
theorem dX5_moveAlong_152 : decode cX5_moveAlong 152 = .ok (.istore 9, 2) := by decide +kernel
theorem dX5_moveAlong_154 : decode cX5_moveAlong 154 = .ok (.iload 5, 2) := by decide +kernel
theorem dX5_moveAlong_156 : decode cX5_moveAlong 156 = .ok (.bipush 16, 2) := by decide +kernel
theorem dX5_moveAlong_158 : decode cX5_moveAlong 158 = .ok (.iand, 1) := by decide +kernel
theorem dX5_moveAlong_159 : decode cX5_moveAlong 159 = .ok (.ifCond .eq 20, 3) := by decide +kernel
theorem dX5_moveAlong_162 : decode cX5_moveAlong 162 = .ok (.iload 6, 2) := by decide +kernel
theorem dX5_moveAlong_164 : decode cX5_moveAlong 164 = .ok (.iconst 1, 1) := by decide +kernel
theorem dX5_moveAlong_165 : decode cX5_moveAlong 165 = .ok (.if_icmp .le 14, 3) := by decide +kernel
theorem dX5_moveAlong_168 : decode cX5_moveAlong 168 = .ok (.iload 9, 2) := by decide +kernel
theorem dX5_moveAlong_170 : decode cX5_moveAlong 170 = .ok (.iload 6, 2) := by decide +kernel
theorem dX5_moveAlong_172 : decode cX5_moveAlong 172 = .ok (.bipush 26, 2) := by decide +kernel
theorem dX5_moveAlong_174 : decode cX5_moveAlong 174 = .ok (.ishl, 1) := by decide +kernel
theorem dX5_moveAlong_175 : decode cX5_moveAlong 175 = .ok (.ior, 1) := by decide +kernel
theorem dX5_moveAlong_176 : decode cX5_moveAlong 176 = .ok (.goto 5, 3) := by decide +kernel
theorem dX5_moveAlong_179 : decode cX5_moveAlong 179 = .ok (.iload 9, 2) := by decide +kernel
theorem dX5_moveAlong_181 : decode cX5_moveAlong 181 = .ok (.ireturn, 1) := by decide +kernel
set_option maxRecDepth 20000 in
theorem moX5_moveAlong_181 {o : Int32 × Hp} {h : Hp} {t0 : Int32} (hE : sX5_moveAlong_181 h  t0 = some o) : Le h o.2 := by
  exact le_some2 hE
set_option maxRecDepth 20000 in
theorem moX5_moveAlong_179 {o : Int32 × Hp} {h : Hp} {x9 : Int32} (hE : sX5_moveAlong_179 h x9 = some o) : Le h o.2 := by
  exact moX5_moveAlong_181 hE
set_option maxRecDepth 20000 in
theorem moX5_moveAlong_154 {o : Int32 × Hp} {h : Hp} {x5 : Int32} {x6 : Int32} {x9 : Int32} (hE : sX5_moveAlong_154 h x5 x6 x9 = some o) : Le h o.2 := by
  rcases br_e hE with ⟨_, hE⟩ | ⟨_, hE⟩
  · exact moX5_moveAlong_179 hE
  · rcases br_e hE with ⟨_, hE⟩ | ⟨_, hE⟩
    · exact moX5_moveAlong_179 hE
    · exact moX5_moveAlong_181 hE
set_option maxRecDepth 20000 in
theorem moX5_moveAlong_129 {o : Int32 × Hp} {h : Hp} {x5 : Int32} {x6 : Int32} {x8 : Int32} {t0 : Int32} {t1 : Int32} {t2 : Int32} {t3 : Int32} (hE : sX5_moveAlong_129 h x5 x6 x8 t0 t1 t2 t3 = some o) : Le h o.2 := by
  obtain ⟨o_1, eo_1, hE⟩ := cl_e hE
  refine (moX5_plainMove eo_1).tr ?_
  rcases br_e hE with ⟨_, hE⟩ | ⟨_, hE⟩
  · exact moX5_moveAlong_154 hE
  · obtain ⟨v_3, ev_3, hE⟩ := nm_e2 hE
    exact moX5_moveAlong_154 hE
set_option maxRecDepth 20000 in
theorem moX5_moveAlong_111 {o : Int32 × Hp} {h : Hp} {x2 : Int32} {x3 : Int32} {x4 : Int32} {x5 : Int32} {x6 : Int32} {x7 : Int32} {t0 : Int32} (hE : sX5_moveAlong_111 h x2 x3 x4 x5 x6 x7 t0 = some o) : Le h o.2 := by
  rcases br_e hE with ⟨_, hE⟩ | ⟨_, hE⟩
  · exact moX5_moveAlong_129 hE
  · exact moX5_moveAlong_129 hE
set_option maxRecDepth 20000 in
theorem moX5_moveAlong_75 {o : Int32 × Hp} {h : Hp} {x0 : Nat} {x2 : Int32} {x3 : Int32} {x4 : Int32} {x5 : Int32} {x6 : Int32} {t0 : Int32} (hE : sX5_moveAlong_75 h x0 x2 x3 x4 x5 x6 t0 = some o) : Le h o.2 := by
  rcases br_e hE with ⟨_, hE⟩ | ⟨_, hE⟩
  · obtain ⟨r_2, er_2, hE⟩ := cl_e hE
    obtain ⟨r_3, er_3, hE⟩ := cl_e hE
    obtain ⟨g_4, hE⟩ := gd_e hE
    exact moX5_moveAlong_111 hE
  · obtain ⟨r_5, er_5, hE⟩ := cl_e hE
    obtain ⟨r_6, er_6, hE⟩ := cl_e hE
    obtain ⟨r_7, er_7, hE⟩ := cl_e hE
    obtain ⟨o_8, eo_8, hE⟩ := cl_e hE
    refine (moX3_passSquare eo_8).tr ?_
    obtain ⟨g_9, hE⟩ := gd_e hE
    exact moX5_moveAlong_111 hE
set_option maxRecDepth 20000 in
theorem moX5_moveAlong_74 {o : Int32 × Hp} {h : Hp} {x0 : Nat} {x2 : Int32} {x3 : Int32} {x4 : Int32} {x5 : Int32} {x6 : Int32} (hE : sX5_moveAlong_74 h x0 x2 x3 x4 x5 x6 = some o) : Le h o.2 := by
  exact moX5_moveAlong_75 hE
set_option maxRecDepth 20000 in
theorem moX5_moveAlong {o : Int32 × Hp} {h : Hp} {x0 : Nat} {x1 : Int32} {x2 : Int32} {x3 : Int32} (hE : sX5_moveAlong h x0 x1 x2 x3 = some o) : Le h o.2 := by
  obtain ⟨r_1, er_1, hE⟩ := cl_e hE
  obtain ⟨r_2, er_2, hE⟩ := cl_e hE
  obtain ⟨g_3, hE⟩ := gd_e hE
  obtain ⟨v_4, ev_4, hE⟩ := nm_e2 hE
  obtain ⟨r_5, er_5, hE⟩ := cl_e hE
  obtain ⟨r_6, er_6, hE⟩ := cl_e hE
  obtain ⟨g_7, hE⟩ := gd_e hE
  obtain ⟨v_8, ev_8, hE⟩ := nm_e2 hE
  obtain ⟨r_9, er_9, hE⟩ := cl_e hE
  obtain ⟨r_10, er_10, hE⟩ := cl_e hE
  obtain ⟨g_11, hE⟩ := gd_e hE
  obtain ⟨v_12, ev_12, hE⟩ := nm_e2 hE
  rcases br_e hE with ⟨_, hE⟩ | ⟨_, hE⟩
  · exact moX5_moveAlong_74 hE
  · obtain ⟨r_14, er_14, hE⟩ := cl_e hE
    rcases br_e hE with ⟨_, hE⟩ | ⟨_, hE⟩
    · exact moX5_moveAlong_74 hE
    · exact moX5_moveAlong_75 hE
set_option maxRecDepth 20000 in
theorem bX5_moveAlong_181 {p : Program} {l : Launch} {e : Env} {s : State} {m : MethodId} {args : Array Value} {below : List Frame} {meth : Method} {c : Code} {X : Ec} {h0 : Hp} {o : Int32 × Hp} (C : Cx X p s m args meth c RX5 cX5_moveAlong 10 (some .int) "moveAlong") {h : Hp} {t0 : Int32} {H : Heap} {locs : List Loc} (hkm : Km h0 h) (hW : Wx X h H) (hZ : va_S (aA (eB X)) s.heap H locs) (ls : Array Slot) (hl : lv_has ls 10 []) (hE : sX5_moveAlong_181 h  t0 = some o) : W p l e (rm 1 23) s m args below meth c H locs 0 0 (MQ below (QI X h0 o.1 o.2) args s 0 0 (aA (eB X))) (F0 m 181 ls [.int t0]) := by
  exact x_iret C rfl rfl hW hZ hkm hE dX5_moveAlong_181
set_option maxRecDepth 20000 in
theorem bX5_moveAlong_179 {p : Program} {l : Launch} {e : Env} {s : State} {m : MethodId} {args : Array Value} {below : List Frame} {meth : Method} {c : Code} {X : Ec} {h0 : Hp} {o : Int32 × Hp} (C : Cx X p s m args meth c RX5 cX5_moveAlong 10 (some .int) "moveAlong") {h : Hp} {x9 : Int32} {H : Heap} {locs : List Loc} (hkm : Km h0 h) (hW : Wx X h H) (hZ : va_S (aA (eB X)) s.heap H locs) (ls : Array Slot) (hl : lv_has ls 10 [(9, .int x9)]) (hE : sX5_moveAlong_179 h x9 = some o) : W p l e (rm 1 23) s m args below meth c H locs 0 0 (MQ below (QI X h0 o.1 o.2) args s 0 0 (aA (eB X))) (F0 m 179 ls []) := by
  refine lv_iload C.1 C.2.1 dX5_moveAlong_179 (lv_at hl 0 rfl) ?_
  exact bX5_moveAlong_181 C hkm hW hZ _ (lv_sub hl [] rfl) hE
set_option maxRecDepth 20000 in
theorem bX5_moveAlong_154 {p : Program} {l : Launch} {e : Env} {s : State} {m : MethodId} {args : Array Value} {below : List Frame} {meth : Method} {c : Code} {X : Ec} {h0 : Hp} {o : Int32 × Hp} (C : Cx X p s m args meth c RX5 cX5_moveAlong 10 (some .int) "moveAlong") {h : Hp} {x5 : Int32} {x6 : Int32} {x9 : Int32} {H : Heap} {locs : List Loc} (hkm : Km h0 h) (hW : Wx X h H) (hZ : va_S (aA (eB X)) s.heap H locs) (ls : Array Slot) (hl : lv_has ls 10 [(5, .int x5), (6, .int x6), (9, .int x9)]) (hE : sX5_moveAlong_154 h x5 x6 x9 = some o) : W p l e (rm 1 23) s m args below meth c H locs 0 0 (MQ below (QI X h0 o.1 o.2) args s 0 0 (aA (eB X))) (F0 m 154 ls []) := by
  refine lv_iload C.1 C.2.1 dX5_moveAlong_154 (lv_at hl 0 rfl) ?_
  refine lv_bipush (v := (16 : Int32)) C.1 C.2.1 dX5_moveAlong_156 (by decide) ?_
  refine lv_iand C.1 C.2.1 dX5_moveAlong_158 ?_
  refine lv_if_eq (tgt := 179) C.1 C.2.1 dX5_moveAlong_159 (by decide) (fun c_1 => ?_) (fun c_1 => ?_)
  · have hE := br_p hE c_1
    exact bX5_moveAlong_179 C hkm hW hZ _ (lv_sub hl [2] rfl) hE
  · have hE := br_n hE c_1
    refine lv_iload C.1 C.2.1 dX5_moveAlong_162 (lv_at hl 1 rfl) ?_
    refine lv_iconst (v := (1 : Int32)) C.1 C.2.1 dX5_moveAlong_164 (by decide) ?_
    refine lv_icmp_le (tgt := 179) C.1 C.2.1 dX5_moveAlong_165 (by decide) (fun c_2 => ?_) (fun c_2 => ?_)
    · have hE := br_p hE c_2
      exact bX5_moveAlong_179 C hkm hW hZ _ (lv_sub hl [2] rfl) hE
    · have hE := br_n hE c_2
      refine lv_iload C.1 C.2.1 dX5_moveAlong_168 (lv_at hl 2 rfl) ?_
      refine lv_iload C.1 C.2.1 dX5_moveAlong_170 (lv_at hl 1 rfl) ?_
      refine lv_bipush (v := (26 : Int32)) C.1 C.2.1 dX5_moveAlong_172 (by decide) ?_
      refine lv_ishl C.1 C.2.1 dX5_moveAlong_174 ?_
      refine lv_ior C.1 C.2.1 dX5_moveAlong_175 ?_
      refine lv_goto (tgt := 181) C.1 C.2.1 dX5_moveAlong_176 (by decide) ?_
      exact bX5_moveAlong_181 C hkm hW hZ _ (lv_sub hl [] rfl) hE
set_option maxRecDepth 20000 in
theorem bX5_moveAlong_129 {p : Program} {l : Launch} {e : Env} {s : State} {m : MethodId} {args : Array Value} {below : List Frame} {meth : Method} {c : Code} {X : Ec} {h0 : Hp} {o : Int32 × Hp} (C : Cx X p s m args meth c RX5 cX5_moveAlong 10 (some .int) "moveAlong") {h : Hp} {x5 : Int32} {x6 : Int32} {x8 : Int32} {t0 : Int32} {t1 : Int32} {t2 : Int32} {t3 : Int32} {H : Heap} {locs : List Loc} (hkm : Km h0 h) (hW : Wx X h H) (hZ : va_S (aA (eB X)) s.heap H locs) (ls : Array Slot) (hl : lv_has ls 10 [(5, .int x5), (6, .int x6), (8, .int x8)]) (hE : sX5_moveAlong_129 h x5 x6 x8 t0 t1 t2 t3 = some o) : W p l e (rm 1 23) s m args below meth c H locs 0 0 (MQ below (QI X h0 o.1 o.2) args s 0 0 (aA (eB X))) (F0 m 129 ls [.int t0, .int t1, .int t2, .int t3]) := by
  obtain ⟨o_1, eo_1, hE⟩ := cl_e hE
  refine x_kI (o := o_1) (z_runS (As := [.int t3, .int t2, .int t1, .int t0]) (rest := []) C (ct_X5_plainMove l X eo_1) cw_X5_176 hW hZ rfl hl.1 (Nat.le_of_ble_eq_true rfl) rfl dX5_moveAlong_129 ⟨Nat.le_of_ble_eq_true rfl, Nat.le_of_ble_eq_true rfl⟩ ⟨Nat.le_refl _, Nat.le_refl _⟩) hZ (fun _ _ hW km hZ => ?_)
  replace hkm := hkm.tr km
  refine lv_istore (lv' := [(9, .int o_1.1), (5, .int x5), (6, .int x6), (8, .int x8)]) C.1 C.2.1 dX5_moveAlong_132 hl (by decide) rfl (fun ls hl => ?_)
  refine lv_iload C.1 C.2.1 dX5_moveAlong_134 (lv_at hl 3 rfl) ?_
  refine lv_if_lt (tgt := 154) C.1 C.2.1 dX5_moveAlong_136 (by decide) (fun c_2 => ?_) (fun c_2 => ?_)
  · have hE := br_p hE c_2
    exact bX5_moveAlong_154 C hkm hW hZ _ (lv_sub hl [1, 2, 0] rfl) hE
  · have hE := br_n hE c_2
    refine lv_iload C.1 C.2.1 dX5_moveAlong_139 (lv_at hl 0 rfl) ?_
    refine lv_ldc (v := (-15728641 : Int32)) C.1 C.2.1 C.2.2.2.1 (C.2.2.2.2.1 _ m_1182) dX5_moveAlong_141 ?_
    refine lv_iand C.1 C.2.1 dX5_moveAlong_143 ?_
    refine lv_iload C.1 C.2.1 dX5_moveAlong_144 (lv_at hl 3 rfl) ?_
    refine lv_iconst (v := (1 : Int32)) C.1 C.2.1 dX5_moveAlong_146 (by decide) ?_
    refine lv_ishr C.1 C.2.1 dX5_moveAlong_147 ?_
    refine lv_bipush (v := (20 : Int32)) C.1 C.2.1 dX5_moveAlong_148 (by decide) ?_
    refine lv_ishl C.1 C.2.1 dX5_moveAlong_150 ?_
    refine lv_ior C.1 C.2.1 dX5_moveAlong_151 ?_
    obtain ⟨v_3, ev_3, hE⟩ := nm_e2 hE
    refine x_nmI ev_3 ?_
    refine lv_istore (lv' := [(9, .int v_3), (5, .int x5), (6, .int x6), (8, .int x8)]) C.1 C.2.1 dX5_moveAlong_152 hl (by decide) rfl (fun ls hl => ?_)
    exact bX5_moveAlong_154 C hkm hW hZ _ (lv_sub hl [1, 2, 0] rfl) hE
set_option maxRecDepth 20000 in
theorem bX5_moveAlong_111 {p : Program} {l : Launch} {e : Env} {s : State} {m : MethodId} {args : Array Value} {below : List Frame} {meth : Method} {c : Code} {X : Ec} {h0 : Hp} {o : Int32 × Hp} (C : Cx X p s m args meth c RX5 cX5_moveAlong 10 (some .int) "moveAlong") {h : Hp} {x2 : Int32} {x3 : Int32} {x4 : Int32} {x5 : Int32} {x6 : Int32} {x7 : Int32} {t0 : Int32} {H : Heap} {locs : List Loc} (hkm : Km h0 h) (hW : Wx X h H) (hZ : va_S (aA (eB X)) s.heap H locs) (ls : Array Slot) (hl : lv_has ls 10 [(2, .int x2), (3, .int x3), (4, .int x4), (5, .int x5), (6, .int x6), (7, .int x7)]) (hE : sX5_moveAlong_111 h x2 x3 x4 x5 x6 x7 t0 = some o) : W p l e (rm 1 23) s m args below meth c H locs 0 0 (MQ below (QI X h0 o.1 o.2) args s 0 0 (aA (eB X))) (F0 m 111 ls [.int t0]) := by
  refine lv_istore (lv' := [(8, .int t0), (2, .int x2), (3, .int x3), (4, .int x4), (5, .int x5), (6, .int x6), (7, .int x7)]) C.1 C.2.1 dX5_moveAlong_111 hl (by decide) rfl (fun ls hl => ?_)
  refine lv_iload_n C.1 C.2.1 dX5_moveAlong_113 rfl (lv_at hl 1 rfl) ?_
  refine lv_iload C.1 C.2.1 dX5_moveAlong_114 (lv_at hl 3 rfl) ?_
  refine lv_iload_n C.1 C.2.1 dX5_moveAlong_116 rfl (lv_at hl 2 rfl) ?_
  refine lv_iconst (v := (1 : Int32)) C.1 C.2.1 dX5_moveAlong_117 (by decide) ?_
  refine lv_ishr C.1 C.2.1 dX5_moveAlong_118 ?_
  refine lv_iload C.1 C.2.1 dX5_moveAlong_119 (lv_at hl 6 rfl) ?_
  refine lv_if_eq (tgt := 128) C.1 C.2.1 dX5_moveAlong_121 (by decide) (fun c_1 => ?_) (fun c_1 => ?_)
  · have hE := br_p hE c_1
    refine lv_iconst (v := (0 : Int32)) C.1 C.2.1 dX5_moveAlong_128 (by decide) ?_
    exact bX5_moveAlong_129 C hkm hW hZ _ (lv_sub hl [4, 5, 0] rfl) hE
  · have hE := br_n hE c_1
    refine lv_iconst (v := (1 : Int32)) C.1 C.2.1 dX5_moveAlong_124 (by decide) ?_
    refine lv_goto (tgt := 129) C.1 C.2.1 dX5_moveAlong_125 (by decide) ?_
    exact bX5_moveAlong_129 C hkm hW hZ _ (lv_sub hl [4, 5, 0] rfl) hE
set_option maxRecDepth 20000 in
theorem bX5_moveAlong_75 {p : Program} {l : Launch} {e : Env} {s : State} {m : MethodId} {args : Array Value} {below : List Frame} {meth : Method} {c : Code} {X : Ec} {h0 : Hp} {o : Int32 × Hp} (C : Cx X p s m args meth c RX5 cX5_moveAlong 10 (some .int) "moveAlong") {h : Hp} {x0 : Nat} {x2 : Int32} {x3 : Int32} {x4 : Int32} {x5 : Int32} {x6 : Int32} {t0 : Int32} {H : Heap} {locs : List Loc} (k_x0 : hK h x0 = 5) (hkm : Km h0 h) (hW : Wx X h H) (hZ : va_S (aA (eB X)) s.heap H locs) (ls : Array Slot) (hl : lv_has ls 10 [(0, .ref x0), (2, .int x2), (3, .int x3), (4, .int x4), (5, .int x5), (6, .int x6)]) (hE : sX5_moveAlong_75 h x0 x2 x3 x4 x5 x6 t0 = some o) : W p l e (rm 1 23) s m args below meth c H locs 0 0 (MQ below (QI X h0 o.1 o.2) args s 0 0 (aA (eB X))) (F0 m 75 ls [.int t0]) := by
  refine lv_istore (lv' := [(7, .int t0), (0, .ref x0), (2, .int x2), (3, .int x3), (4, .int x4), (5, .int x5), (6, .int x6)]) C.1 C.2.1 dX5_moveAlong_75 hl (by decide) rfl (fun ls hl => ?_)
  refine lv_iload C.1 C.2.1 dX5_moveAlong_77 (lv_at hl 0 rfl) ?_
  refine lv_if_eq (tgt := 101) C.1 C.2.1 dX5_moveAlong_79 (by decide) (fun c_1 => ?_) (fun c_1 => ?_)
  · have hE := br_p hE c_1
    refine lv_aload_n C.1 C.2.1 dX5_moveAlong_101 rfl (lv_at hl 1 rfl) ?_
    obtain ⟨r_2, er_2, hE⟩ := cl_e hE
    refine gf_X5_71 C hW k_x0 er_2 dX5_moveAlong_102 (fun k_r_2 => ?_)
    obtain ⟨r_3, er_3, hE⟩ := cl_e hE
    refine gf_X5_42 C hW k_r_2 er_3 dX5_moveAlong_105 (fun k_r_3 => ?_)
    refine lv_iload C.1 C.2.1 dX5_moveAlong_108 (lv_at hl 4 rfl) ?_
    obtain ⟨g_4, hE⟩ := gd_e hE
    refine y_bald C hW k_r_3 g_4 dX5_moveAlong_110 ?_
    exact bX5_moveAlong_111 C hkm hW hZ _ (lv_sub hl [2, 3, 4, 5, 6, 0] rfl) hE
  · have hE := br_n hE c_1
    refine lv_aload_n C.1 C.2.1 dX5_moveAlong_82 rfl (lv_at hl 1 rfl) ?_
    obtain ⟨r_5, er_5, hE⟩ := cl_e hE
    refine gf_X5_71 C hW k_x0 er_5 dX5_moveAlong_83 (fun k_r_5 => ?_)
    obtain ⟨r_6, er_6, hE⟩ := cl_e hE
    refine gf_X5_42 C hW k_r_5 er_6 dX5_moveAlong_86 (fun k_r_6 => ?_)
    refine lv_aload_n C.1 C.2.1 dX5_moveAlong_89 rfl (lv_at hl 1 rfl) ?_
    obtain ⟨r_7, er_7, hE⟩ := cl_e hE
    refine gf_X5_71 C hW k_x0 er_7 dX5_moveAlong_90 (fun k_r_7 => ?_)
    refine lv_iconst (v := (0 : Int32)) C.1 C.2.1 dX5_moveAlong_93 (by decide) ?_
    obtain ⟨o_8, eo_8, hE⟩ := cl_e hE
    refine x_kI (o := o_8) (z_runV (As := [.int (0 : Int32)]) (rest := [.ref r_6]) C (ct_X3_passSquare l X k_r_7 eo_8) cw_X5_173 hW hZ k_r_7 (by decide) rfl rfl rfl hl.1 (Nat.le_of_ble_eq_true rfl) rfl dX5_moveAlong_94 ⟨Nat.le_of_ble_eq_true rfl, Nat.le_of_ble_eq_true rfl⟩ ⟨Nat.le_refl _, Nat.le_refl _⟩) hZ (fun _ _ hW km hZ => ?_)
    replace hkm := hkm.tr km
    replace k_x0 := km.at k_x0 (by decide)
    replace k_r_6 := km.at k_r_6 (by decide)
    obtain ⟨g_9, hE⟩ := gd_e hE
    refine y_bald C hW k_r_6 g_9 dX5_moveAlong_97 ?_
    refine lv_goto (tgt := 111) C.1 C.2.1 dX5_moveAlong_98 (by decide) ?_
    exact bX5_moveAlong_111 C hkm hW hZ _ (lv_sub hl [2, 3, 4, 5, 6, 0] rfl) hE
set_option maxRecDepth 20000 in
theorem bX5_moveAlong_74 {p : Program} {l : Launch} {e : Env} {s : State} {m : MethodId} {args : Array Value} {below : List Frame} {meth : Method} {c : Code} {X : Ec} {h0 : Hp} {o : Int32 × Hp} (C : Cx X p s m args meth c RX5 cX5_moveAlong 10 (some .int) "moveAlong") {h : Hp} {x0 : Nat} {x2 : Int32} {x3 : Int32} {x4 : Int32} {x5 : Int32} {x6 : Int32} {H : Heap} {locs : List Loc} (k_x0 : hK h x0 = 5) (hkm : Km h0 h) (hW : Wx X h H) (hZ : va_S (aA (eB X)) s.heap H locs) (ls : Array Slot) (hl : lv_has ls 10 [(0, .ref x0), (2, .int x2), (3, .int x3), (4, .int x4), (5, .int x5), (6, .int x6)]) (hE : sX5_moveAlong_74 h x0 x2 x3 x4 x5 x6 = some o) : W p l e (rm 1 23) s m args below meth c H locs 0 0 (MQ below (QI X h0 o.1 o.2) args s 0 0 (aA (eB X))) (F0 m 74 ls []) := by
  refine lv_iconst (v := (0 : Int32)) C.1 C.2.1 dX5_moveAlong_74 (by decide) ?_
  exact bX5_moveAlong_75 C k_x0 hkm hW hZ _ (lv_sub hl [0, 1, 2, 3, 4, 5] rfl) hE
set_option maxRecDepth 20000 in
theorem ct_X5_moveAlong (l : Launch) (X : Ec) {h : Hp} {x0 : Nat} {x1 : Int32} {x2 : Int32} {x3 : Int32} {o : Int32 × Hp} (k_x0 : hK h x0 = 5) (hE : sX5_moveAlong h x0 x1 x2 x3 = some o) : MetI l yX5_moveAlong cX5_moveAlong 10 (some .int) 1 23 X [.ref x0, .int x1, .int x2, .int x3] h o := by
  refine x_met (by decide) (Nat.le_of_ble_eq_true rfl) ?_
  intro p e s m below meth c ls C hl hW hZ
  have hl : lv_has ls 10 [(0, .ref x0), (1, .int x1), (2, .int x2), (3, .int x3)] := hl
  have hkm : Km h h := Km.rf h
  refine lv_aload_n C.1 C.2.1 dX5_moveAlong_0 rfl (lv_at hl 0 rfl) ?_
  obtain ⟨r_1, er_1, hE⟩ := cl_e hE
  refine gf_X5_26 C hW k_x0 er_1 dX5_moveAlong_1 (fun k_r_1 => ?_)
  obtain ⟨r_2, er_2, hE⟩ := cl_e hE
  refine gf_X5_54 C hW k_r_1 er_2 dX5_moveAlong_4 (fun k_r_2 => ?_)
  refine lv_iload_n C.1 C.2.1 dX5_moveAlong_7 rfl (lv_at hl 1 rfl) ?_
  obtain ⟨g_3, hE⟩ := gd_e hE
  refine y_iald C hW k_r_2 g_3 dX5_moveAlong_8 ?_
  refine lv_bipush (v := (63 : Int32)) C.1 C.2.1 dX5_moveAlong_9 (by decide) ?_
  refine lv_iand C.1 C.2.1 dX5_moveAlong_11 ?_
  obtain ⟨v_4, ev_4, hE⟩ := nm_e2 hE
  refine x_nmI ev_4 ?_
  refine lv_istore (lv' := [(4, .int v_4), (0, .ref x0), (1, .int x1), (2, .int x2), (3, .int x3)]) C.1 C.2.1 dX5_moveAlong_12 hl (by decide) rfl (fun ls hl => ?_)
  refine lv_aload_n C.1 C.2.1 dX5_moveAlong_14 rfl (lv_at hl 1 rfl) ?_
  obtain ⟨r_5, er_5, hE⟩ := cl_e hE
  refine gf_X5_26 C hW k_x0 er_5 dX5_moveAlong_15 (fun k_r_5 => ?_)
  obtain ⟨r_6, er_6, hE⟩ := cl_e hE
  refine gf_X5_54 C hW k_r_5 er_6 dX5_moveAlong_18 (fun k_r_6 => ?_)
  refine lv_iload_n C.1 C.2.1 dX5_moveAlong_21 rfl (lv_at hl 2 rfl) ?_
  obtain ⟨g_7, hE⟩ := gd_e hE
  refine y_iald C hW k_r_6 g_7 dX5_moveAlong_22 ?_
  refine lv_bipush (v := (6 : Int32)) C.1 C.2.1 dX5_moveAlong_23 (by decide) ?_
  refine lv_ishr C.1 C.2.1 dX5_moveAlong_25 ?_
  refine lv_bipush (v := (63 : Int32)) C.1 C.2.1 dX5_moveAlong_26 (by decide) ?_
  refine lv_iand C.1 C.2.1 dX5_moveAlong_28 ?_
  obtain ⟨v_8, ev_8, hE⟩ := nm_e2 hE
  refine x_nmI ev_8 ?_
  refine lv_istore (lv' := [(5, .int v_8), (4, .int v_4), (0, .ref x0), (1, .int x1), (2, .int x2), (3, .int x3)]) C.1 C.2.1 dX5_moveAlong_29 hl (by decide) rfl (fun ls hl => ?_)
  refine lv_aload_n C.1 C.2.1 dX5_moveAlong_31 rfl (lv_at hl 2 rfl) ?_
  obtain ⟨r_9, er_9, hE⟩ := cl_e hE
  refine gf_X5_26 C hW k_x0 er_9 dX5_moveAlong_32 (fun k_r_9 => ?_)
  obtain ⟨r_10, er_10, hE⟩ := cl_e hE
  refine gf_X5_54 C hW k_r_9 er_10 dX5_moveAlong_35 (fun k_r_10 => ?_)
  refine lv_iload_n C.1 C.2.1 dX5_moveAlong_38 rfl (lv_at hl 3 rfl) ?_
  obtain ⟨g_11, hE⟩ := gd_e hE
  refine y_iald C hW k_r_10 g_11 dX5_moveAlong_39 ?_
  refine lv_bipush (v := (12 : Int32)) C.1 C.2.1 dX5_moveAlong_40 (by decide) ?_
  refine lv_ishr C.1 C.2.1 dX5_moveAlong_42 ?_
  obtain ⟨v_12, ev_12, hE⟩ := nm_e2 hE
  refine x_nmI ev_12 ?_
  refine lv_istore (lv' := [(6, .int v_12), (5, .int v_8), (4, .int v_4), (0, .ref x0), (1, .int x1), (2, .int x2), (3, .int x3)]) C.1 C.2.1 dX5_moveAlong_43 hl (by decide) rfl (fun ls hl => ?_)
  refine lv_iload C.1 C.2.1 dX5_moveAlong_45 (lv_at hl 1 rfl) ?_
  refine lv_bipush (v := (32 : Int32)) C.1 C.2.1 dX5_moveAlong_47 (by decide) ?_
  refine lv_iand C.1 C.2.1 dX5_moveAlong_49 ?_
  refine lv_if_eq (tgt := 74) C.1 C.2.1 dX5_moveAlong_50 (by decide) (fun c_13 => ?_) (fun c_13 => ?_)
  · have hE := br_p hE c_13
    exact bX5_moveAlong_74 C k_x0 hkm hW hZ _ (lv_sub hl [3, 5, 6, 2, 1, 0] rfl) hE
  · have hE := br_n hE c_13
    refine lv_aload_n C.1 C.2.1 dX5_moveAlong_53 rfl (lv_at hl 3 rfl) ?_
    obtain ⟨r_14, er_14, hE⟩ := cl_e hE
    refine gf_X5_71 C hW k_x0 er_14 dX5_moveAlong_54 (fun k_r_14 => ?_)
    refine gf_X5_150 C hW k_r_14 dX5_moveAlong_57 ?_
    refine lv_iload C.1 C.2.1 dX5_moveAlong_60 (lv_at hl 2 rfl) ?_
    refine lv_lushr C.1 C.2.1 dX5_moveAlong_62 rfl ?_
    refine lv_lconst (v := (1 : Int64)) C.1 C.2.1 dX5_moveAlong_63 (by decide) ?_
    refine lv_land C.1 C.2.1 dX5_moveAlong_64 ?_
    refine lv_lconst (v := (0 : Int64)) C.1 C.2.1 dX5_moveAlong_65 (by decide) ?_
    refine W.lcmp C.1 C.2.1 dX5_moveAlong_66 ?_
    refine lv_if_eq (tgt := 74) C.1 C.2.1 dX5_moveAlong_67 (by decide) (fun c_15 => ?_) (fun c_15 => ?_)
    · have hE := br_p hE c_15
      exact bX5_moveAlong_74 C k_x0 hkm hW hZ _ (lv_sub hl [3, 5, 6, 2, 1, 0] rfl) hE
    · have hE := br_n hE c_15
      refine lv_iconst (v := (1 : Int32)) C.1 C.2.1 dX5_moveAlong_70 (by decide) ?_
      refine lv_goto (tgt := 75) C.1 C.2.1 dX5_moveAlong_71 (by decide) ?_
      exact bX5_moveAlong_75 C k_x0 hkm hW hZ _ (lv_sub hl [3, 5, 6, 2, 1, 0] rfl) hE
theorem dX5_takenBy_0 : decode cX5_takenBy 0 = .ok (.iload_n 0, 1) := by decide +kernel
theorem dX5_takenBy_1 : decode cX5_takenBy 1 = .ok (.bipush 20, 2) := by decide +kernel
theorem dX5_takenBy_3 : decode cX5_takenBy 3 = .ok (.ishr, 1) := by decide +kernel
theorem dX5_takenBy_4 : decode cX5_takenBy 4 = .ok (.bipush 15, 2) := by decide +kernel
theorem dX5_takenBy_6 : decode cX5_takenBy 6 = .ok (.iand, 1) := by decide +kernel
theorem dX5_takenBy_7 : decode cX5_takenBy 7 = .ok (.istore_n 1, 1) := by decide +kernel
theorem dX5_takenBy_8 : decode cX5_takenBy 8 = .ok (.iload_n 1, 1) := by decide +kernel
theorem dX5_takenBy_9 : decode cX5_takenBy 9 = .ok (.bipush 15, 2) := by decide +kernel
theorem dX5_takenBy_11 : decode cX5_takenBy 11 = .ok (.if_icmp .ne 7, 3) := by decide +kernel
theorem dX5_takenBy_14 : decode cX5_takenBy 14 = .ok (.iconst (-1), 1) := by decide +kernel
theorem dX5_takenBy_15 : decode cX5_takenBy 15 = .ok (.goto 4, 3) := by decide +kernel
theorem dX5_takenBy_18 : decode cX5_takenBy 18 = .ok (.iload_n 1, 1) := by decide +kernel
theorem dX5_takenBy_19 : decode cX5_takenBy 19 = .ok (.ireturn, 1) := by decide +kernel
set_option maxRecDepth 20000 in
theorem moX5_takenBy_19 {o : Int32 × Hp} {h : Hp} {t0 : Int32} (hE : sX5_takenBy_19 h  t0 = some o) : Le h o.2 := by
  exact le_some2 hE
set_option maxRecDepth 20000 in
theorem moX5_takenBy {o : Int32 × Hp} {h : Hp} {x0 : Int32} (hE : sX5_takenBy h x0 = some o) : Le h o.2 := by
  obtain ⟨v_1, ev_1, hE⟩ := nm_e2 hE
  rcases br_e hE with ⟨_, hE⟩ | ⟨_, hE⟩
  · exact moX5_takenBy_19 hE
  · exact moX5_takenBy_19 hE
set_option maxRecDepth 20000 in
theorem bX5_takenBy_19 {p : Program} {l : Launch} {e : Env} {s : State} {m : MethodId} {args : Array Value} {below : List Frame} {meth : Method} {c : Code} {X : Ec} {h0 : Hp} {o : Int32 × Hp} (C : Cx X p s m args meth c RX5 cX5_takenBy 2 (some .int) "takenBy") {h : Hp} {t0 : Int32} {H : Heap} {locs : List Loc} (hkm : Km h0 h) (hW : Wx X h H) (hZ : va_S (aA (eB X)) s.heap H locs) (ls : Array Slot) (hl : lv_has ls 2 []) (hE : sX5_takenBy_19 h  t0 = some o) : W p l e (rm 0 0) s m args below meth c H locs 0 0 (MQ below (QI X h0 o.1 o.2) args s 0 0 (aA (eB X))) (F0 m 19 ls [.int t0]) := by
  exact x_iret C rfl rfl hW hZ hkm hE dX5_takenBy_19
set_option maxRecDepth 20000 in
theorem ct_X5_takenBy (l : Launch) (X : Ec) {h : Hp} {x0 : Int32} {o : Int32 × Hp} (hE : sX5_takenBy h x0 = some o) : MetI l yX5_takenBy cX5_takenBy 2 (some .int) 0 0 X [.int x0] h o := by
  refine x_met (by decide) (Nat.le_of_ble_eq_true rfl) ?_
  intro p e s m below meth c ls C hl hW hZ
  have hl : lv_has ls 2 [(0, .int x0)] := hl
  have hkm : Km h h := Km.rf h
  refine lv_iload_n C.1 C.2.1 dX5_takenBy_0 rfl (lv_at hl 0 rfl) ?_
  refine lv_bipush (v := (20 : Int32)) C.1 C.2.1 dX5_takenBy_1 (by decide) ?_
  refine lv_ishr C.1 C.2.1 dX5_takenBy_3 ?_
  refine lv_bipush (v := (15 : Int32)) C.1 C.2.1 dX5_takenBy_4 (by decide) ?_
  refine lv_iand C.1 C.2.1 dX5_takenBy_6 ?_
  obtain ⟨v_1, ev_1, hE⟩ := nm_e2 hE
  refine x_nmI ev_1 ?_
  refine lv_istore_n (lv' := [(1, .int v_1), (0, .int x0)]) C.1 C.2.1 dX5_takenBy_7 rfl hl (by decide) rfl (fun ls hl => ?_)
  refine lv_iload_n C.1 C.2.1 dX5_takenBy_8 rfl (lv_at hl 0 rfl) ?_
  refine lv_bipush (v := (15 : Int32)) C.1 C.2.1 dX5_takenBy_9 (by decide) ?_
  refine lv_icmp_ne (tgt := 18) C.1 C.2.1 dX5_takenBy_11 (by decide) (fun c_2 => ?_) (fun c_2 => ?_)
  · have hE := br_n hE c_2
    refine lv_iload_n C.1 C.2.1 dX5_takenBy_18 rfl (lv_at hl 0 rfl) ?_
    exact bX5_takenBy_19 C hkm hW hZ _ (lv_sub hl [] rfl) hE
  · have hE := br_p hE c_2
    refine lv_iconst (v := (-1 : Int32)) C.1 C.2.1 dX5_takenBy_14 (by decide) ?_
    refine lv_goto (tgt := 19) C.1 C.2.1 dX5_takenBy_15 (by decide) ?_
    exact bX5_takenBy_19 C hkm hW hZ _ (lv_sub hl [] rfl) hE
theorem dX5_comeTo_0 : decode cX5_comeTo 0 = .ok (.iload_n 0, 1) := by decide +kernel
theorem dX5_comeTo_1 : decode cX5_comeTo 1 = .ok (.bipush 63, 2) := by decide +kernel
theorem dX5_comeTo_3 : decode cX5_comeTo 3 = .ok (.iand, 1) := by decide +kernel
theorem dX5_comeTo_4 : decode cX5_comeTo 4 = .ok (.ireturn, 1) := by decide +kernel
set_option maxRecDepth 20000 in
theorem moX5_comeTo {o : Int32 × Hp} {h : Hp} {x0 : Int32} (hE : sX5_comeTo h x0 = some o) : Le h o.2 := by
  exact le_some2 hE
set_option maxRecDepth 20000 in
theorem ct_X5_comeTo (l : Launch) (X : Ec) {h : Hp} {x0 : Int32} {o : Int32 × Hp} (hE : sX5_comeTo h x0 = some o) : MetI l yX5_comeTo cX5_comeTo 1 (some .int) 0 0 X [.int x0] h o := by
  refine x_met (by decide) (Nat.le_of_ble_eq_true rfl) ?_
  intro p e s m below meth c ls C hl hW hZ
  have hl : lv_has ls 1 [(0, .int x0)] := hl
  have hkm : Km h h := Km.rf h
  refine lv_iload_n C.1 C.2.1 dX5_comeTo_0 rfl (lv_at hl 0 rfl) ?_
  refine lv_bipush (v := (63 : Int32)) C.1 C.2.1 dX5_comeTo_1 (by decide) ?_
  refine lv_iand C.1 C.2.1 dX5_comeTo_3 ?_
  exact x_iret C rfl rfl hW hZ hkm hE dX5_comeTo_4
theorem dX5_manOf_0 : decode cX5_manOf 0 = .ok (.iload_n 0, 1) := by decide +kernel
theorem dX5_manOf_1 : decode cX5_manOf 1 = .ok (.bipush 12, 2) := by decide +kernel
theorem dX5_manOf_3 : decode cX5_manOf 3 = .ok (.ishr, 1) := by decide +kernel
theorem dX5_manOf_4 : decode cX5_manOf 4 = .ok (.bipush 15, 2) := by decide +kernel
theorem dX5_manOf_6 : decode cX5_manOf 6 = .ok (.iand, 1) := by decide +kernel
theorem dX5_manOf_7 : decode cX5_manOf 7 = .ok (.ireturn, 1) := by decide +kernel
set_option maxRecDepth 20000 in
theorem moX5_manOf {o : Int32 × Hp} {h : Hp} {x0 : Int32} (hE : sX5_manOf h x0 = some o) : Le h o.2 := by
  exact le_some2 hE
set_option maxRecDepth 20000 in
theorem ct_X5_manOf (l : Launch) (X : Ec) {h : Hp} {x0 : Int32} {o : Int32 × Hp} (hE : sX5_manOf h x0 = some o) : MetI l yX5_manOf cX5_manOf 1 (some .int) 0 0 X [.int x0] h o := by
  refine x_met (by decide) (Nat.le_of_ble_eq_true rfl) ?_
  intro p e s m below meth c ls C hl hW hZ
  have hl : lv_has ls 1 [(0, .int x0)] := hl
  have hkm : Km h h := Km.rf h
  refine lv_iload_n C.1 C.2.1 dX5_manOf_0 rfl (lv_at hl 0 rfl) ?_
  refine lv_bipush (v := (12 : Int32)) C.1 C.2.1 dX5_manOf_1 (by decide) ?_
  refine lv_ishr C.1 C.2.1 dX5_manOf_3 ?_
  refine lv_bipush (v := (15 : Int32)) C.1 C.2.1 dX5_manOf_4 (by decide) ?_
  refine lv_iand C.1 C.2.1 dX5_manOf_6 ?_
  exact x_iret C rfl rfl hW hZ hkm hE dX5_manOf_7
set_option maxRecDepth 100000 in
theorem m_133 : Cond.fieldLink RX5 191 (TX1 18).1 (TX1 18).2.1 (TX1 18).2.2.1 ∈ W0 := w0_in (List.mem_append_right _ (List.mem_of_getElem? (i := 133) rfl)) rfl
set_option maxRecDepth 100000 in
theorem m_1187 : Cond.methodLink RX5 181 yX5_takenBy ∈ W0 := w0_in (List.mem_append_right _ (List.mem_of_getElem? (i := 1187) rfl)) rfl
set_option maxRecDepth 100000 in
theorem m_1188 : Cond.static yX5_takenBy ∈ W0 := w0_in (List.mem_append_right _ (List.mem_of_getElem? (i := 1188) rfl)) rfl
set_option maxRecDepth 100000 in
theorem m_1189 : Cond.code yX5_takenBy cX5_takenBy 2 (some .int) ∈ W0 := w0_in (List.mem_append_right _ (List.mem_of_getElem? (i := 1189) rfl)) rfl
set_option maxRecDepth 100000 in
theorem m_1190 : Cond.methodLink RX5 184 yX5_comeTo ∈ W0 := w0_in (List.mem_append_right _ (List.mem_of_getElem? (i := 1190) rfl)) rfl
set_option maxRecDepth 100000 in
theorem m_1191 : Cond.static yX5_comeTo ∈ W0 := w0_in (List.mem_append_right _ (List.mem_of_getElem? (i := 1191) rfl)) rfl
set_option maxRecDepth 100000 in
theorem m_1192 : Cond.code yX5_comeTo cX5_comeTo 1 (some .int) ∈ W0 := w0_in (List.mem_append_right _ (List.mem_of_getElem? (i := 1192) rfl)) rfl
set_option maxRecDepth 100000 in
theorem m_1193 : Cond.methodLink RX5 194 yX5_manOf ∈ W0 := w0_in (List.mem_append_right _ (List.mem_of_getElem? (i := 1193) rfl)) rfl
set_option maxRecDepth 100000 in
theorem m_1194 : Cond.static yX5_manOf ∈ W0 := w0_in (List.mem_append_right _ (List.mem_of_getElem? (i := 1194) rfl)) rfl
set_option maxRecDepth 100000 in
theorem m_1195 : Cond.code yX5_manOf cX5_manOf 1 (some .int) ∈ W0 := w0_in (List.mem_append_right _ (List.mem_of_getElem? (i := 1195) rfl)) rfl
section
variable {p : Program} {l : Launch} {e : Env} {R : Room} {s : State} {m : MethodId} {args : Array Value} {below : List Frame} {meth : Method} {c : Code} {H : Heap} {locs : List Loc} {cells slots : Nat} {Q : State → Prop}
variable {cc : ByteArray} {pc : Nat} {ls : Array Slot} {rest : List Value} {X : Ec} {h h1 : Hp} {nL : Nat} {rt : Option FieldType} {mn : String}
theorem gf_X5_191 {a r : Nat} (C : Cx X p s m args meth c RX5 cc nL rt mn) (hW : Wx X h H) (ha : hK h a = 1) (hr : hR h a 18 = some r) (hdg : decode cc pc = .ok (.getfield 191, 3)) (kk : hK h r = 17 → W p l e R s m args below meth c H locs cells slots Q (F0 m (pc + 3) ls (.ref r :: rest))) : W p l e R s m args below meth c H locs cells slots Q (F0 m pc ls (.ref a :: rest)) :=
  y_getr C hW ha i_X1 (by decide) rfl (by decide) m_133 rfl rfl hr hdg kk
end
theorem cw_X5_184 : cwd RX5 184 yX5_comeTo cX5_comeTo 1 (some .int) true 1 := ⟨m_1192, m_1190, m_7, m_1191, by decide, by decide, by decide +kernel⟩
theorem cw_X5_194 : cwd RX5 194 yX5_manOf cX5_manOf 1 (some .int) true 1 := ⟨m_1195, m_1193, m_7, m_1194, by decide, by decide, by decide +kernel⟩
theorem cw_X5_181 : cwd RX5 181 yX5_takenBy cX5_takenBy 2 (some .int) true 1 := ⟨m_1189, m_1187, m_7, m_1188, by decide, by decide, by decide +kernel⟩
theorem dX5_choices_0 : decode cX5_choices 0 = .ok (.aload_n 0, 1) := by decide +kernel
theorem dX5_choices_1 : decode cX5_choices 1 = .ok (.getfield 22, 3) := by decide +kernel
theorem dX5_choices_4 : decode cX5_choices 4 = .ok (.bipush 8, 2) := by decide +kernel
theorem dX5_choices_6 : decode cX5_choices 6 = .ok (.invokevirtual 104, 3) := by decide +kernel
theorem dX5_choices_9 : decode cX5_choices 9 = .ok (.ifCond .eq 15, 3) := by decide +kernel
theorem dX5_choices_12 : decode cX5_choices 12 = .ok (.iload_n 1, 1) := by decide +kernel
theorem dX5_choices_13 : decode cX5_choices 13 = .ok (.invokestatic 181, 3) := by decide +kernel
theorem dX5_choices_16 : decode cX5_choices 16 = .ok (.iconst (-1), 1) := by decide +kernel
theorem dX5_choices_17 : decode cX5_choices 17 = .ok (.if_icmp .eq 7, 3) := by decide +kernel
theorem dX5_choices_20 : decode cX5_choices 20 = .ok (.iconst 1, 1) := by decide +kernel
theorem dX5_choices_21 : decode cX5_choices 21 = .ok (.goto 4, 3) := by decide +kernel
theorem dX5_choices_24 : decode cX5_choices 24 = .ok (.iconst 0, 1) := by decide +kernel
theorem dX5_choices_25 : decode cX5_choices 25 = .ok (.istore_n 2, 1) := by decide +kernel
theorem dX5_choices_26 : decode cX5_choices 26 = .ok (.iload_n 2, 1) := by decide +kernel
theorem dX5_choices_27 : decode cX5_choices 27 = .ok (.ifCond .ne 39, 3) := by decide +kernel
theorem dX5_choices_30 : decode cX5_choices 30 = .ok (.aload_n 0, 1) := by decide +kernel
theorem dX5_choices_31 : decode cX5_choices 31 = .ok (.getfield 22, 3) := by decide +kernel
theorem dX5_choices_34 : decode cX5_choices 34 = .ok (.iload_n 1, 1) := by decide +kernel
theorem dX5_choices_35 : decode cX5_choices 35 = .ok (.invokestatic 184, 3) := by decide +kernel
theorem dX5_choices_38 : decode cX5_choices 38 = .ok (.aload_n 0, 1) := by decide +kernel
theorem dX5_choices_39 : decode cX5_choices 39 = .ok (.getfield 71, 3) := by decide +kernel
theorem dX5_choices_42 : decode cX5_choices 42 = .ok (.getfield 78, 3) := by decide +kernel
theorem dX5_choices_45 : decode cX5_choices 45 = .ok (.invokevirtual 187, 3) := by decide +kernel
theorem dX5_choices_48 : decode cX5_choices 48 = .ok (.ifCond .eq 18, 3) := by decide +kernel
theorem dX5_choices_51 : decode cX5_choices 51 = .ok (.aload_n 0, 1) := by decide +kernel
theorem dX5_choices_52 : decode cX5_choices 52 = .ok (.getfield 22, 3) := by decide +kernel
theorem dX5_choices_55 : decode cX5_choices 55 = .ok (.getfield 191, 3) := by decide +kernel
theorem dX5_choices_58 : decode cX5_choices 58 = .ok (.iload_n 1, 1) := by decide +kernel
theorem dX5_choices_59 : decode cX5_choices 59 = .ok (.invokestatic 194, 3) := by decide +kernel
theorem dX5_choices_62 : decode cX5_choices 62 = .ok (.iaload, 1) := by decide +kernel
theorem dX5_choices_63 : decode cX5_choices 63 = .ok (.goto 4, 3) := by decide +kernel
theorem dX5_choices_66 : decode cX5_choices 66 = .ok (.iconst 0, 1) := by decide +kernel
theorem dX5_choices_67 : decode cX5_choices 67 = .ok (.ireturn, 1) := by decide +kernel
set_option maxRecDepth 20000 in
theorem moX5_choices_67 {o : Int32 × Hp} {h : Hp} {t0 : Int32} (hE : sX5_choices_67 h  t0 = some o) : Le h o.2 := by
  exact le_some2 hE
set_option maxRecDepth 20000 in
theorem moX5_choices_66 {o : Int32 × Hp} {h : Hp} (hE : sX5_choices_66 h  = some o) : Le h o.2 := by
  exact moX5_choices_67 hE
set_option maxRecDepth 20000 in
theorem moX5_choices_25 {o : Int32 × Hp} {h : Hp} {x0 : Nat} {x1 : Int32} {t0 : Int32} (hE : sX5_choices_25 h x0 x1 t0 = some o) : Le h o.2 := by
  rcases br_e hE with ⟨_, hE⟩ | ⟨_, hE⟩
  · obtain ⟨r_2, er_2, hE⟩ := cl_e hE
    obtain ⟨o_3, eo_3, hE⟩ := cl_e hE
    refine (moX5_comeTo eo_3).tr ?_
    obtain ⟨r_4, er_4, hE⟩ := cl_e hE
    obtain ⟨o_5, eo_5, hE⟩ := cl_e hE
    refine (moX1_isLast eo_5).tr ?_
    rcases br_e hE with ⟨_, hE⟩ | ⟨_, hE⟩
    · exact moX5_choices_66 hE
    · obtain ⟨r_7, er_7, hE⟩ := cl_e hE
      obtain ⟨r_8, er_8, hE⟩ := cl_e hE
      obtain ⟨o_9, eo_9, hE⟩ := cl_e hE
      refine (moX5_manOf eo_9).tr ?_
      obtain ⟨g_10, hE⟩ := gd_e hE
      exact moX5_choices_67 hE
  · exact moX5_choices_66 hE
set_option maxRecDepth 20000 in
theorem moX5_choices_24 {o : Int32 × Hp} {h : Hp} {x0 : Nat} {x1 : Int32} (hE : sX5_choices_24 h x0 x1 = some o) : Le h o.2 := by
  exact moX5_choices_25 hE
set_option maxRecDepth 20000 in
theorem moX5_choices {o : Int32 × Hp} {h : Hp} {x0 : Nat} {x1 : Int32} (hE : sX5_choices h x0 x1 = some o) : Le h o.2 := by
  obtain ⟨r_1, er_1, hE⟩ := cl_e hE
  obtain ⟨o_2, eo_2, hE⟩ := cl_e hE
  refine (moX1_has eo_2).tr ?_
  rcases br_e hE with ⟨_, hE⟩ | ⟨_, hE⟩
  · exact moX5_choices_24 hE
  · obtain ⟨o_4, eo_4, hE⟩ := cl_e hE
    refine (moX5_takenBy eo_4).tr ?_
    rcases br_e hE with ⟨_, hE⟩ | ⟨_, hE⟩
    · exact moX5_choices_24 hE
    · exact moX5_choices_25 hE
set_option maxRecDepth 20000 in
theorem bX5_choices_67 {p : Program} {l : Launch} {e : Env} {s : State} {m : MethodId} {args : Array Value} {below : List Frame} {meth : Method} {c : Code} {X : Ec} {h0 : Hp} {o : Int32 × Hp} (C : Cx X p s m args meth c RX5 cX5_choices 3 (some .int) "choices") {h : Hp} {t0 : Int32} {H : Heap} {locs : List Loc} (hkm : Km h0 h) (hW : Wx X h H) (hZ : va_S (aA (eB X)) s.heap H locs) (ls : Array Slot) (hl : lv_has ls 3 []) (hE : sX5_choices_67 h  t0 = some o) : W p l e (rm 1 22) s m args below meth c H locs 0 0 (MQ below (QI X h0 o.1 o.2) args s 0 0 (aA (eB X))) (F0 m 67 ls [.int t0]) := by
  exact x_iret C rfl rfl hW hZ hkm hE dX5_choices_67
set_option maxRecDepth 20000 in
theorem bX5_choices_66 {p : Program} {l : Launch} {e : Env} {s : State} {m : MethodId} {args : Array Value} {below : List Frame} {meth : Method} {c : Code} {X : Ec} {h0 : Hp} {o : Int32 × Hp} (C : Cx X p s m args meth c RX5 cX5_choices 3 (some .int) "choices") {h : Hp} {H : Heap} {locs : List Loc} (hkm : Km h0 h) (hW : Wx X h H) (hZ : va_S (aA (eB X)) s.heap H locs) (ls : Array Slot) (hl : lv_has ls 3 []) (hE : sX5_choices_66 h  = some o) : W p l e (rm 1 22) s m args below meth c H locs 0 0 (MQ below (QI X h0 o.1 o.2) args s 0 0 (aA (eB X))) (F0 m 66 ls []) := by
  refine lv_iconst (v := (0 : Int32)) C.1 C.2.1 dX5_choices_66 (by decide) ?_
  exact bX5_choices_67 C hkm hW hZ _ (lv_sub hl [] rfl) hE
set_option maxRecDepth 20000 in
theorem bX5_choices_25 {p : Program} {l : Launch} {e : Env} {s : State} {m : MethodId} {args : Array Value} {below : List Frame} {meth : Method} {c : Code} {X : Ec} {h0 : Hp} {o : Int32 × Hp} (C : Cx X p s m args meth c RX5 cX5_choices 3 (some .int) "choices") {h : Hp} {x0 : Nat} {x1 : Int32} {t0 : Int32} {H : Heap} {locs : List Loc} (k_x0 : hK h x0 = 5) (hkm : Km h0 h) (hW : Wx X h H) (hZ : va_S (aA (eB X)) s.heap H locs) (ls : Array Slot) (hl : lv_has ls 3 [(0, .ref x0), (1, .int x1)]) (hE : sX5_choices_25 h x0 x1 t0 = some o) : W p l e (rm 1 22) s m args below meth c H locs 0 0 (MQ below (QI X h0 o.1 o.2) args s 0 0 (aA (eB X))) (F0 m 25 ls [.int t0]) := by
  refine lv_istore_n (lv' := [(2, .int t0), (0, .ref x0), (1, .int x1)]) C.1 C.2.1 dX5_choices_25 rfl hl (by decide) rfl (fun ls hl => ?_)
  refine lv_iload_n C.1 C.2.1 dX5_choices_26 rfl (lv_at hl 0 rfl) ?_
  refine lv_if_ne (tgt := 66) C.1 C.2.1 dX5_choices_27 (by decide) (fun c_1 => ?_) (fun c_1 => ?_)
  · have hE := br_n hE c_1
    exact bX5_choices_66 C hkm hW hZ _ (lv_sub hl [] rfl) hE
  · have hE := br_p hE c_1
    refine lv_aload_n C.1 C.2.1 dX5_choices_30 rfl (lv_at hl 1 rfl) ?_
    obtain ⟨r_2, er_2, hE⟩ := cl_e hE
    refine gf_X5_22 C hW k_x0 er_2 dX5_choices_31 (fun k_r_2 => ?_)
    refine lv_iload_n C.1 C.2.1 dX5_choices_34 rfl (lv_at hl 2 rfl) ?_
    obtain ⟨o_3, eo_3, hE⟩ := cl_e hE
    refine x_kI (o := o_3) (z_runS (As := [.int x1]) (rest := [.ref r_2]) C (ct_X5_comeTo l X eo_3) cw_X5_184 hW hZ rfl hl.1 (Nat.le_of_ble_eq_true rfl) rfl dX5_choices_35 ⟨Nat.le_of_ble_eq_true rfl, Nat.le_of_ble_eq_true rfl⟩ ⟨Nat.le_refl _, Nat.le_refl _⟩) hZ (fun _ _ hW km hZ => ?_)
    replace hkm := hkm.tr km
    replace k_x0 := km.at k_x0 (by decide)
    replace k_r_2 := km.at k_r_2 (by decide)
    refine lv_aload_n C.1 C.2.1 dX5_choices_38 rfl (lv_at hl 1 rfl) ?_
    obtain ⟨r_4, er_4, hE⟩ := cl_e hE
    refine gf_X5_71 C hW k_x0 er_4 dX5_choices_39 (fun k_r_4 => ?_)
    refine gf_X5_78 C hW k_r_4 dX5_choices_42 ?_
    obtain ⟨o_5, eo_5, hE⟩ := cl_e hE
    refine x_kI (o := o_5) (z_runV (As := [.int o_3.1, .int (hI o_3.2 r_4 5)]) (rest := []) C (ct_X1_isLast l X k_r_2 eo_5) cw_X5_187 hW hZ k_r_2 (by decide) rfl rfl rfl hl.1 (Nat.le_of_ble_eq_true rfl) rfl dX5_choices_45 ⟨Nat.le_of_ble_eq_true rfl, Nat.le_of_ble_eq_true rfl⟩ ⟨Nat.le_refl _, Nat.le_refl _⟩) hZ (fun _ _ hW km hZ => ?_)
    replace hkm := hkm.tr km
    replace k_x0 := km.at k_x0 (by decide)
    refine lv_if_eq (tgt := 66) C.1 C.2.1 dX5_choices_48 (by decide) (fun c_6 => ?_) (fun c_6 => ?_)
    · have hE := br_p hE c_6
      exact bX5_choices_66 C hkm hW hZ _ (lv_sub hl [] rfl) hE
    · have hE := br_n hE c_6
      refine lv_aload_n C.1 C.2.1 dX5_choices_51 rfl (lv_at hl 1 rfl) ?_
      obtain ⟨r_7, er_7, hE⟩ := cl_e hE
      refine gf_X5_22 C hW k_x0 er_7 dX5_choices_52 (fun k_r_7 => ?_)
      obtain ⟨r_8, er_8, hE⟩ := cl_e hE
      refine gf_X5_191 C hW k_r_7 er_8 dX5_choices_55 (fun k_r_8 => ?_)
      refine lv_iload_n C.1 C.2.1 dX5_choices_58 rfl (lv_at hl 2 rfl) ?_
      obtain ⟨o_9, eo_9, hE⟩ := cl_e hE
      refine x_kI (o := o_9) (z_runS (As := [.int x1]) (rest := [.ref r_8]) C (ct_X5_manOf l X eo_9) cw_X5_194 hW hZ rfl hl.1 (Nat.le_of_ble_eq_true rfl) rfl dX5_choices_59 ⟨Nat.le_of_ble_eq_true rfl, Nat.le_of_ble_eq_true rfl⟩ ⟨Nat.le_refl _, Nat.le_refl _⟩) hZ (fun _ _ hW km hZ => ?_)
      replace hkm := hkm.tr km
      replace k_x0 := km.at k_x0 (by decide)
      replace k_r_8 := km.at k_r_8 (by decide)
      obtain ⟨g_10, hE⟩ := gd_e hE
      refine y_iald C hW k_r_8 g_10 dX5_choices_62 ?_
      refine lv_goto (tgt := 67) C.1 C.2.1 dX5_choices_63 (by decide) ?_
      exact bX5_choices_67 C hkm hW hZ _ (lv_sub hl [] rfl) hE
set_option maxRecDepth 20000 in
theorem bX5_choices_24 {p : Program} {l : Launch} {e : Env} {s : State} {m : MethodId} {args : Array Value} {below : List Frame} {meth : Method} {c : Code} {X : Ec} {h0 : Hp} {o : Int32 × Hp} (C : Cx X p s m args meth c RX5 cX5_choices 3 (some .int) "choices") {h : Hp} {x0 : Nat} {x1 : Int32} {H : Heap} {locs : List Loc} (k_x0 : hK h x0 = 5) (hkm : Km h0 h) (hW : Wx X h H) (hZ : va_S (aA (eB X)) s.heap H locs) (ls : Array Slot) (hl : lv_has ls 3 [(0, .ref x0), (1, .int x1)]) (hE : sX5_choices_24 h x0 x1 = some o) : W p l e (rm 1 22) s m args below meth c H locs 0 0 (MQ below (QI X h0 o.1 o.2) args s 0 0 (aA (eB X))) (F0 m 24 ls []) := by
  refine lv_iconst (v := (0 : Int32)) C.1 C.2.1 dX5_choices_24 (by decide) ?_
  exact bX5_choices_25 C k_x0 hkm hW hZ _ (lv_sub hl [0, 1] rfl) hE
set_option maxRecDepth 20000 in
theorem ct_X5_choices (l : Launch) (X : Ec) {h : Hp} {x0 : Nat} {x1 : Int32} {o : Int32 × Hp} (k_x0 : hK h x0 = 5) (hE : sX5_choices h x0 x1 = some o) : MetI l yX5_choices cX5_choices 3 (some .int) 1 22 X [.ref x0, .int x1] h o := by
  refine x_met (by decide) (Nat.le_of_ble_eq_true rfl) ?_
  intro p e s m below meth c ls C hl hW hZ
  have hl : lv_has ls 3 [(0, .ref x0), (1, .int x1)] := hl
  have hkm : Km h h := Km.rf h
  refine lv_aload_n C.1 C.2.1 dX5_choices_0 rfl (lv_at hl 0 rfl) ?_
  obtain ⟨r_1, er_1, hE⟩ := cl_e hE
  refine gf_X5_22 C hW k_x0 er_1 dX5_choices_1 (fun k_r_1 => ?_)
  refine lv_bipush (v := (8 : Int32)) C.1 C.2.1 dX5_choices_4 (by decide) ?_
  obtain ⟨o_2, eo_2, hE⟩ := cl_e hE
  refine x_kI (o := o_2) (z_runV (As := [.int (8 : Int32)]) (rest := []) C (ct_X1_has l X k_r_1 eo_2) cw_X5_104 hW hZ k_r_1 (by decide) rfl rfl rfl hl.1 (Nat.le_of_ble_eq_true rfl) rfl dX5_choices_6 ⟨Nat.le_of_ble_eq_true rfl, Nat.le_of_ble_eq_true rfl⟩ ⟨Nat.le_refl _, Nat.le_refl _⟩) hZ (fun _ _ hW km hZ => ?_)
  replace hkm := hkm.tr km
  replace k_x0 := km.at k_x0 (by decide)
  refine lv_if_eq (tgt := 24) C.1 C.2.1 dX5_choices_9 (by decide) (fun c_3 => ?_) (fun c_3 => ?_)
  · have hE := br_p hE c_3
    exact bX5_choices_24 C k_x0 hkm hW hZ _ (lv_sub hl [0, 1] rfl) hE
  · have hE := br_n hE c_3
    refine lv_iload_n C.1 C.2.1 dX5_choices_12 rfl (lv_at hl 1 rfl) ?_
    obtain ⟨o_4, eo_4, hE⟩ := cl_e hE
    refine x_kI (o := o_4) (z_runS (As := [.int x1]) (rest := []) C (ct_X5_takenBy l X eo_4) cw_X5_181 hW hZ rfl hl.1 (Nat.le_of_ble_eq_true rfl) rfl dX5_choices_13 ⟨Nat.le_of_ble_eq_true rfl, Nat.le_of_ble_eq_true rfl⟩ ⟨Nat.le_refl _, Nat.le_refl _⟩) hZ (fun _ _ hW km hZ => ?_)
    replace hkm := hkm.tr km
    replace k_x0 := km.at k_x0 (by decide)
    refine lv_iconst (v := (-1 : Int32)) C.1 C.2.1 dX5_choices_16 (by decide) ?_
    refine lv_icmp_eq (tgt := 24) C.1 C.2.1 dX5_choices_17 (by decide) (fun c_5 => ?_) (fun c_5 => ?_)
    · have hE := br_p hE c_5
      exact bX5_choices_24 C k_x0 hkm hW hZ _ (lv_sub hl [0, 1] rfl) hE
    · have hE := br_n hE c_5
      refine lv_iconst (v := (1 : Int32)) C.1 C.2.1 dX5_choices_20 (by decide) ?_
      refine lv_goto (tgt := 25) C.1 C.2.1 dX5_choices_21 (by decide) ?_
      exact bX5_choices_25 C k_x0 hkm hW hZ _ (lv_sub hl [0, 1] rfl) hE
set_option maxRecDepth 100000 in
theorem m_1199 : Cond.constant RX5 32 (-983041 : Int32) ∈ W0 := w0_in (List.mem_append_right _ (List.mem_of_getElem? (i := 1199) rfl)) rfl
theorem dX5_becoming_0 : decode cX5_becoming 0 = .ok (.iload_n 0, 1) := by decide +kernel
theorem dX5_becoming_1 : decode cX5_becoming 1 = .ok (.ldc 32, 2) := by decide +kernel
theorem dX5_becoming_3 : decode cX5_becoming 3 = .ok (.iand, 1) := by decide +kernel
theorem dX5_becoming_4 : decode cX5_becoming 4 = .ok (.iload_n 1, 1) := by decide +kernel
theorem dX5_becoming_5 : decode cX5_becoming 5 = .ok (.bipush 16, 2) := by decide +kernel
theorem dX5_becoming_7 : decode cX5_becoming 7 = .ok (.ishl, 1) := by decide +kernel
theorem dX5_becoming_8 : decode cX5_becoming 8 = .ok (.ior, 1) := by decide +kernel
theorem dX5_becoming_9 : decode cX5_becoming 9 = .ok (.ireturn, 1) := by decide +kernel
set_option maxRecDepth 20000 in
theorem moX5_becoming {o : Int32 × Hp} {h : Hp} {x0 : Int32} {x1 : Int32} (hE : sX5_becoming h x0 x1 = some o) : Le h o.2 := by
  exact le_some2 hE
set_option maxRecDepth 20000 in
theorem ct_X5_becoming (l : Launch) (X : Ec) {h : Hp} {x0 : Int32} {x1 : Int32} {o : Int32 × Hp} (hE : sX5_becoming h x0 x1 = some o) : MetI l yX5_becoming cX5_becoming 2 (some .int) 0 0 X [.int x0, .int x1] h o := by
  refine x_met (by decide) (Nat.le_of_ble_eq_true rfl) ?_
  intro p e s m below meth c ls C hl hW hZ
  have hl : lv_has ls 2 [(0, .int x0), (1, .int x1)] := hl
  have hkm : Km h h := Km.rf h
  refine lv_iload_n C.1 C.2.1 dX5_becoming_0 rfl (lv_at hl 0 rfl) ?_
  refine lv_ldc (v := (-983041 : Int32)) C.1 C.2.1 C.2.2.2.1 (C.2.2.2.2.1 _ m_1199) dX5_becoming_1 ?_
  refine lv_iand C.1 C.2.1 dX5_becoming_3 ?_
  refine lv_iload_n C.1 C.2.1 dX5_becoming_4 rfl (lv_at hl 1 rfl) ?_
  refine lv_bipush (v := (16 : Int32)) C.1 C.2.1 dX5_becoming_5 (by decide) ?_
  refine lv_ishl C.1 C.2.1 dX5_becoming_7 ?_
  refine lv_ior C.1 C.2.1 dX5_becoming_8 ?_
  exact x_iret C rfl rfl hW hZ hkm hE dX5_becoming_9
section
variable {p : Program} {l : Launch} {e : Env} {R : Room} {s : State} {m : MethodId} {args : Array Value} {below : List Frame} {meth : Method} {c : Code} {H : Heap} {locs : List Loc} {cells slots : Nat} {Q : State → Prop}
variable {cc : ByteArray} {pc : Nat} {ls : Array Slot} {rest : List Value} {X : Ec} {h h1 : Hp} {nL : Nat} {rt : Option FieldType} {mn : String}
theorem gf_X5_82 {a : Nat} (C : Cx X p s m args meth c RX5 cc nL rt mn) (hW : Wx X h H) (ha : hK h a = 5) (hdg : decode cc pc = .ok (.getfield 82, 3)) (kk : W p l e R s m args below meth c H locs cells slots Q (F0 m (pc + 3) ls (.int (hI h a 6) :: rest))) : W p l e R s m args below meth c H locs cells slots Q (F0 m pc ls (.ref a :: rest)) :=
  y_geti C hW ha i_X5 (by decide) rfl (by decide) m_351 rfl hdg kk
theorem gf_X5_123 {a r : Nat} (C : Cx X p s m args meth c RX5 cc nL rt mn) (hW : Wx X h H) (ha : hK h a = 5) (hr : hR h a 5 = some r) (hdg : decode cc pc = .ok (.getfield 123, 3)) (kk : hK h r = 17 → W p l e R s m args below meth c H locs cells slots Q (F0 m (pc + 3) ls (.ref r :: rest))) : W p l e R s m args below meth c H locs cells slots Q (F0 m pc ls (.ref a :: rest)) :=
  y_getr C hW ha i_X5 (by decide) rfl (by decide) m_350 rfl rfl hr hdg kk
end
theorem dX5_addMove_0 : decode cX5_addMove 0 = .ok (.aload_n 0, 1) := by decide +kernel
theorem dX5_addMove_1 : decode cX5_addMove 1 = .ok (.getfield 82, 3) := by decide +kernel
theorem dX5_addMove_4 : decode cX5_addMove 4 = .ok (.aload_n 0, 1) := by decide +kernel
theorem dX5_addMove_5 : decode cX5_addMove 5 = .ok (.getfield 123, 3) := by decide +kernel
theorem dX5_addMove_8 : decode cX5_addMove 8 = .ok (.arraylength, 1) := by decide +kernel
theorem dX5_addMove_9 : decode cX5_addMove 9 = .ok (.if_icmp .ge 23, 3) := by decide +kernel
theorem dX5_addMove_12 : decode cX5_addMove 12 = .ok (.aload_n 0, 1) := by decide +kernel
theorem dX5_addMove_13 : decode cX5_addMove 13 = .ok (.getfield 123, 3) := by decide +kernel
theorem dX5_addMove_16 : decode cX5_addMove 16 = .ok (.aload_n 0, 1) := by decide +kernel
theorem dX5_addMove_17 : decode cX5_addMove 17 = .ok (.getfield 82, 3) := by decide +kernel
theorem dX5_addMove_20 : decode cX5_addMove 20 = .ok (.iload_n 1, 1) := by decide +kernel
theorem dX5_addMove_21 : decode cX5_addMove 21 = .ok (.iastore, 1) := by decide +kernel
theorem dX5_addMove_22 : decode cX5_addMove 22 = .ok (.aload_n 0, 1) := by decide +kernel
theorem dX5_addMove_23 : decode cX5_addMove 23 = .ok (.dup, 1) := by decide +kernel
theorem dX5_addMove_24 : decode cX5_addMove 24 = .ok (.getfield 82, 3) := by decide +kernel
theorem dX5_addMove_27 : decode cX5_addMove 27 = .ok (.iconst 1, 1) := by decide +kernel
theorem dX5_addMove_28 : decode cX5_addMove 28 = .ok (.iadd, 1) := by decide +kernel
theorem dX5_addMove_29 : decode cX5_addMove 29 = .ok (.putfield 82, 3) := by decide +kernel
theorem dX5_addMove_32 : decode cX5_addMove 32 = .ok (.return_, 1) := by decide +kernel
set_option maxRecDepth 20000 in
theorem moX5_addMove_32 {o : Hp} {h : Hp} (hE : sX5_addMove_32 h  = some o) : Le h o := by
  exact le_some1 hE
set_option maxRecDepth 20000 in
theorem moX5_addMove {o : Hp} {h : Hp} {x0 : Nat} {x1 : Int32} (hE : sX5_addMove h x0 x1 = some o) : Le h o := by
  obtain ⟨r_1, er_1, hE⟩ := cl_e hE
  rcases br_e hE with ⟨_, hE⟩ | ⟨_, hE⟩
  · exact moX5_addMove_32 hE
  · obtain ⟨r_3, er_3, hE⟩ := cl_e hE
    obtain ⟨g_4, hE⟩ := gd_e hE
    obtain ⟨h_5, eh_5, hE⟩ := nm_e2 hE
    refine (le_I eh_5).tr ?_
    obtain ⟨h_6, eh_6, hE⟩ := nm_e2 hE
    refine (le_I eh_6).tr ?_
    exact moX5_addMove_32 hE
set_option maxRecDepth 20000 in
theorem bX5_addMove_32 {p : Program} {l : Launch} {e : Env} {s : State} {m : MethodId} {args : Array Value} {below : List Frame} {meth : Method} {c : Code} {X : Ec} {h0 : Hp} {o : Hp} (C : Cx X p s m args meth c RX5 cX5_addMove 2 none "addMove") {h : Hp} {H : Heap} {locs : List Loc} (hkm : Km h0 h) (hW : Wx X h H) (hZ : va_S (aA (eB X)) s.heap H locs) (ls : Array Slot) (hl : lv_has ls 2 []) (hE : sX5_addMove_32 h  = some o) : W p l e (rm 0 0) s m args below meth c H locs 0 0 (MQ below (QV X h0 o) args s 0 0 (aA (eB X))) (F0 m 32 ls []) := by
  exact x_vret C rfl hW hZ hkm hE dX5_addMove_32
set_option maxRecDepth 20000 in
theorem ct_X5_addMove (l : Launch) (X : Ec) {h : Hp} {x0 : Nat} {x1 : Int32} {o : Hp} (k_x0 : hK h x0 = 5) (hE : sX5_addMove h x0 x1 = some o) : MetV l yX5_addMove cX5_addMove 2 none 0 0 X [.ref x0, .int x1] h o := by
  refine x_met (by decide) (Nat.le_of_ble_eq_true rfl) ?_
  intro p e s m below meth c ls C hl hW hZ
  have hl : lv_has ls 2 [(0, .ref x0), (1, .int x1)] := hl
  have hkm : Km h h := Km.rf h
  refine lv_aload_n C.1 C.2.1 dX5_addMove_0 rfl (lv_at hl 0 rfl) ?_
  refine gf_X5_82 C hW k_x0 dX5_addMove_1 ?_
  refine lv_aload_n C.1 C.2.1 dX5_addMove_4 rfl (lv_at hl 0 rfl) ?_
  obtain ⟨r_1, er_1, hE⟩ := cl_e hE
  refine gf_X5_123 C hW k_x0 er_1 dX5_addMove_5 (fun k_r_1 => ?_)
  refine y_alen C hW k_r_1 (by decide) dX5_addMove_8 ?_
  refine lv_icmp_ge (tgt := 32) C.1 C.2.1 dX5_addMove_9 (by decide) (fun c_2 => ?_) (fun c_2 => ?_)
  · have hE := br_p hE c_2
    exact bX5_addMove_32 C hkm hW hZ _ (lv_sub hl [] rfl) hE
  · have hE := br_n hE c_2
    refine lv_aload_n C.1 C.2.1 dX5_addMove_12 rfl (lv_at hl 0 rfl) ?_
    obtain ⟨r_3, er_3, hE⟩ := cl_e hE
    refine gf_X5_123 C hW k_x0 er_3 dX5_addMove_13 (fun k_r_3 => ?_)
    refine lv_aload_n C.1 C.2.1 dX5_addMove_16 rfl (lv_at hl 0 rfl) ?_
    refine gf_X5_82 C hW k_x0 dX5_addMove_17 ?_
    refine lv_iload_n C.1 C.2.1 dX5_addMove_20 rfl (lv_at hl 1 rfl) ?_
    obtain ⟨g_4, hE⟩ := gd_e hE
    obtain ⟨h_5, eh_5, hE⟩ := nm_e2 hE
    refine y_iast C hW hZ k_r_3 g_4 eh_5 dX5_addMove_21 (fun _ _ hW km hZ => ?_)
    replace hkm := hkm.tr km
    replace k_x0 := km.at k_x0 (by decide)
    refine lv_aload_n C.1 C.2.1 dX5_addMove_22 rfl (lv_at hl 0 rfl) ?_
    refine lv_dup C.1 C.2.1 dX5_addMove_23 rfl ?_
    refine gf_X5_82 C hW k_x0 dX5_addMove_24 ?_
    refine lv_iconst (v := (1 : Int32)) C.1 C.2.1 dX5_addMove_27 (by decide) ?_
    refine lv_iadd C.1 C.2.1 dX5_addMove_28 ?_
    obtain ⟨h_6, eh_6, hE⟩ := nm_e2 hE
    refine pf_X5_82 C hW hZ k_x0 eh_6 dX5_addMove_29 (fun _ _ hW km hZ => ?_)
    replace hkm := hkm.tr km
    replace k_x0 := km.at k_x0 (by decide)
    exact bX5_addMove_32 C hkm hW hZ _ (lv_sub hl [] rfl) hE
set_option maxRecDepth 100000 in
theorem ms_57 : Cond.selects RX5 yX5_addMove yX5_addMove ∈ W0 := w0_in (List.mem_append_left _ (List.mem_of_getElem? (i := 57) rfl)) rfl
set_option maxRecDepth 100000 in
theorem ms_56 : Cond.selects RX5 yX5_choices yX5_choices ∈ W0 := w0_in (List.mem_append_left _ (List.mem_of_getElem? (i := 56) rfl)) rfl
set_option maxRecDepth 100000 in
theorem ms_55 : Cond.selects RX5 yX5_moveAlong yX5_moveAlong ∈ W0 := w0_in (List.mem_append_left _ (List.mem_of_getElem? (i := 55) rfl)) rfl
set_option maxRecDepth 100000 in
theorem ms_54 : Cond.selects RX5 yX5_leads yX5_leads ∈ W0 := w0_in (List.mem_append_left _ (List.mem_of_getElem? (i := 54) rfl)) rfl
set_option maxRecDepth 100000 in
theorem m_129 : Cond.fieldLink RX5 163 (TX1 17).1 (TX1 17).2.1 (TX1 17).2.2.1 ∈ W0 := w0_in (List.mem_append_right _ (List.mem_of_getElem? (i := 129) rfl)) rfl
set_option maxRecDepth 100000 in
theorem m_1169 : Cond.methodLink RX5 153 yX5_leads ∈ W0 := w0_in (List.mem_append_right _ (List.mem_of_getElem? (i := 1169) rfl)) rfl
set_option maxRecDepth 100000 in
theorem m_1171 : Cond.instanceMethod yX5_leads ∈ W0 := w0_in (List.mem_append_right _ (List.mem_of_getElem? (i := 1171) rfl)) rfl
set_option maxRecDepth 100000 in
theorem m_1172 : Cond.code yX5_leads cX5_leads 8 (some .boolean) ∈ W0 := w0_in (List.mem_append_right _ (List.mem_of_getElem? (i := 1172) rfl)) rfl
set_option maxRecDepth 100000 in
theorem m_1173 : Cond.methodLink RX5 156 yX5_moveAlong ∈ W0 := w0_in (List.mem_append_right _ (List.mem_of_getElem? (i := 1173) rfl)) rfl
set_option maxRecDepth 100000 in
theorem m_1175 : Cond.instanceMethod yX5_moveAlong ∈ W0 := w0_in (List.mem_append_right _ (List.mem_of_getElem? (i := 1175) rfl)) rfl
set_option maxRecDepth 100000 in
theorem m_1176 : Cond.code yX5_moveAlong cX5_moveAlong 10 (some .int) ∈ W0 := w0_in (List.mem_append_right _ (List.mem_of_getElem? (i := 1176) rfl)) rfl
set_option maxRecDepth 100000 in
theorem m_1183 : Cond.methodLink RX5 159 yX5_choices ∈ W0 := w0_in (List.mem_append_right _ (List.mem_of_getElem? (i := 1183) rfl)) rfl
set_option maxRecDepth 100000 in
theorem m_1185 : Cond.instanceMethod yX5_choices ∈ W0 := w0_in (List.mem_append_right _ (List.mem_of_getElem? (i := 1185) rfl)) rfl
set_option maxRecDepth 100000 in
theorem m_1186 : Cond.code yX5_choices cX5_choices 3 (some .int) ∈ W0 := w0_in (List.mem_append_right _ (List.mem_of_getElem? (i := 1186) rfl)) rfl
set_option maxRecDepth 100000 in
theorem m_1196 : Cond.methodLink RX5 166 yX5_becoming ∈ W0 := w0_in (List.mem_append_right _ (List.mem_of_getElem? (i := 1196) rfl)) rfl
set_option maxRecDepth 100000 in
theorem m_1197 : Cond.static yX5_becoming ∈ W0 := w0_in (List.mem_append_right _ (List.mem_of_getElem? (i := 1197) rfl)) rfl
set_option maxRecDepth 100000 in
theorem m_1198 : Cond.code yX5_becoming cX5_becoming 2 (some .int) ∈ W0 := w0_in (List.mem_append_right _ (List.mem_of_getElem? (i := 1198) rfl)) rfl
set_option maxRecDepth 100000 in
theorem m_1200 : Cond.methodLink RX5 170 yX5_addMove ∈ W0 := w0_in (List.mem_append_right _ (List.mem_of_getElem? (i := 1200) rfl)) rfl
set_option maxRecDepth 100000 in
theorem m_1202 : Cond.instanceMethod yX5_addMove ∈ W0 := w0_in (List.mem_append_right _ (List.mem_of_getElem? (i := 1202) rfl)) rfl
set_option maxRecDepth 100000 in
theorem m_1203 : Cond.code yX5_addMove cX5_addMove 2 none ∈ W0 := w0_in (List.mem_append_right _ (List.mem_of_getElem? (i := 1203) rfl)) rfl
section
variable {p : Program} {l : Launch} {e : Env} {R : Room} {s : State} {m : MethodId} {args : Array Value} {below : List Frame} {meth : Method} {c : Code} {H : Heap} {locs : List Loc} {cells slots : Nat} {Q : State → Prop}
variable {cc : ByteArray} {pc : Nat} {ls : Array Slot} {rest : List Value} {X : Ec} {h h1 : Hp} {nL : Nat} {rt : Option FieldType} {mn : String}
theorem gf_X5_163 {a r : Nat} (C : Cx X p s m args meth c RX5 cc nL rt mn) (hW : Wx X h H) (ha : hK h a = 1) (hr : hR h a 17 = some r) (hdg : decode cc pc = .ok (.getfield 163, 3)) (kk : hK h r = 17 → W p l e R s m args below meth c H locs cells slots Q (F0 m (pc + 3) ls (.ref r :: rest))) : W p l e R s m args below meth c H locs cells slots Q (F0 m pc ls (.ref a :: rest)) :=
  y_getr C hW ha i_X1 (by decide) rfl (by decide) m_129 rfl rfl hr hdg kk
end
theorem cw_X5_170 : cwd RX5 170 yX5_addMove cX5_addMove 2 none false 1 := ⟨m_1203, m_1200, m_7, ⟨m_1202, ms_57⟩, by decide, by decide, by decide +kernel⟩
theorem cw_X5_166 : cwd RX5 166 yX5_becoming cX5_becoming 2 (some .int) true 2 := ⟨m_1198, m_1196, m_7, m_1197, by decide, by decide, by decide +kernel⟩
theorem cw_X5_153 : cwd RX5 153 yX5_leads cX5_leads 8 (some .boolean) false 3 := ⟨m_1172, m_1169, m_7, ⟨m_1171, ms_54⟩, by decide, by decide, by decide +kernel⟩
theorem cw_X5_156 : cwd RX5 156 yX5_moveAlong cX5_moveAlong 10 (some .int) false 3 := ⟨m_1176, m_1173, m_7, ⟨m_1175, ms_55⟩, by decide, by decide, by decide +kernel⟩
theorem cw_X5_159 : cwd RX5 159 yX5_choices cX5_choices 3 (some .int) false 1 := ⟨m_1186, m_1183, m_7, ⟨m_1185, ms_56⟩, by decide, by decide, by decide +kernel⟩
theorem dX5_addSteps_0 : decode cX5_addSteps 0 = .ok (.aload_n 0, 1) := by decide +kernel
theorem dX5_addSteps_1 : decode cX5_addSteps 1 = .ok (.getfield 71, 3) := by decide +kernel
theorem dX5_addSteps_4 : decode cX5_addSteps 4 = .ok (.getfield 42, 3) := by decide +kernel
theorem dX5_addSteps_7 : decode cX5_addSteps 7 = .ok (.iload_n 1, 1) := by decide +kernel
theorem dX5_addSteps_8 : decode cX5_addSteps 8 = .ok (.baload, 1) := by decide +kernel
theorem dX5_addSteps_9 : decode cX5_addSteps 9 = .ok (.istore_n 2, 1) := by decide +kernel
theorem dX5_addSteps_10 : decode cX5_addSteps 10 = .ok (.iconst (-1), 1) := by decide +kernel
theorem dX5_addSteps_11 : decode cX5_addSteps 11 = .ok (.istore_n 3, 1) := by decide +kernel
theorem dX5_addSteps_12 : decode cX5_addSteps 12 = .ok (.aload_n 0, 1) := by decide +kernel
theorem dX5_addSteps_13 : decode cX5_addSteps 13 = .ok (.getfield 26, 3) := by decide +kernel
theorem dX5_addSteps_16 : decode cX5_addSteps 16 = .ok (.getfield 51, 3) := by decide +kernel
theorem dX5_addSteps_19 : decode cX5_addSteps 19 = .ok (.iload_n 2, 1) := by decide +kernel
theorem dX5_addSteps_20 : decode cX5_addSteps 20 = .ok (.iload_n 1, 1) := by decide +kernel
theorem dX5_addSteps_21 : decode cX5_addSteps 21 = .ok (.bipush 64, 2) := by decide +kernel
theorem dX5_addSteps_23 : decode cX5_addSteps 23 = .ok (.invokestatic 142, 3) := by decide +kernel
theorem dX5_addSteps_26 : decode cX5_addSteps 26 = .ok (.iaload, 1) := by decide +kernel
theorem dX5_addSteps_27 : decode cX5_addSteps 27 = .ok (.istore 4, 2) := by decide +kernel
theorem dX5_addSteps_29 : decode cX5_addSteps 29 = .ok (.aload_n 0, 1) := by decide +kernel
theorem dX5_addSteps_30 : decode cX5_addSteps 30 = .ok (.getfield 26, 3) := by decide +kernel
theorem dX5_addSteps_33 : decode cX5_addSteps 33 = .ok (.getfield 51, 3) := by decide +kernel
theorem dX5_addSteps_36 : decode cX5_addSteps 36 = .ok (.iload_n 2, 1) := by decide +kernel
theorem dX5_addSteps_37 : decode cX5_addSteps 37 = .ok (.iload_n 1, 1) := by decide +kernel
theorem dX5_addSteps_38 : decode cX5_addSteps 38 = .ok (.iconst 0, 1) := by decide +kernel
theorem dX5_addSteps_39 : decode cX5_addSteps 39 = .ok (.invokestatic 142, 3) := by decide +kernel
theorem dX5_addSteps_42 : decode cX5_addSteps 42 = .ok (.iaload, 1) := by decide +kernel
theorem dX5_addSteps_43 : decode cX5_addSteps 43 = .ok (.istore 5, 2) := by decide +kernel
theorem dX5_addSteps_45 : decode cX5_addSteps 45 = .ok (.iload 5, 2) := by decide +kernel
theorem dX5_addSteps_47 : decode cX5_addSteps 47 = .ok (.iload 4, 2) := by decide +kernel
theorem dX5_addSteps_49 : decode cX5_addSteps 49 = .ok (.if_icmp .ge 127, 3) := by decide +kernel
theorem dX5_addSteps_52 : decode cX5_addSteps 52 = .ok (.aload_n 0, 1) := by decide +kernel
theorem dX5_addSteps_53 : decode cX5_addSteps 53 = .ok (.getfield 26, 3) := by decide +kernel
theorem dX5_addSteps_56 : decode cX5_addSteps 56 = .ok (.getfield 54, 3) := by decide +kernel
theorem dX5_addSteps_59 : decode cX5_addSteps 59 = .ok (.iload 5, 2) := by decide +kernel
theorem dX5_addSteps_61 : decode cX5_addSteps 61 = .ok (.iaload, 1) := by decide +kernel
theorem dX5_addSteps_62 : decode cX5_addSteps 62 = .ok (.bipush 63, 2) := by decide +kernel
theorem dX5_addSteps_64 : decode cX5_addSteps 64 = .ok (.iand, 1) := by decide +kernel
theorem dX5_addSteps_65 : decode cX5_addSteps 65 = .ok (.istore 6, 2) := by decide +kernel
theorem dX5_addSteps_67 : decode cX5_addSteps 67 = .ok (.iload 6, 2) := by decide +kernel
theorem dX5_addSteps_69 : decode cX5_addSteps 69 = .ok (.iload_n 3, 1) := by decide +kernel
theorem dX5_addSteps_70 : decode cX5_addSteps 70 = .ok (.if_icmp .eq 100, 3) := by decide +kernel
theorem dX5_addSteps_73 : decode cX5_addSteps 73 = .ok (.aload_n 0, 1) := by decide +kernel
theorem dX5_addSteps_74 : decode cX5_addSteps 74 = .ok (.aload_n 0, 1) := by decide +kernel
theorem dX5_addSteps_75 : decode cX5_addSteps 75 = .ok (.getfield 71, 3) := by decide +kernel
theorem dX5_addSteps_78 : decode cX5_addSteps 78 = .ok (.iload 5, 2) := by decide +kernel
theorem dX5_addSteps_80 : decode cX5_addSteps 80 = .ok (.aload_n 0, 1) := by decide +kernel
theorem dX5_addSteps_81 : decode cX5_addSteps 81 = .ok (.getfield 71, 3) := by decide +kernel
theorem dX5_addSteps_84 : decode cX5_addSteps 84 = .ok (.getfield 78, 3) := by decide +kernel
theorem dX5_addSteps_87 : decode cX5_addSteps 87 = .ok (.invokevirtual 153, 3) := by decide +kernel
theorem dX5_addSteps_90 : decode cX5_addSteps 90 = .ok (.ifCond .ne 6, 3) := by decide +kernel
theorem dX5_addSteps_93 : decode cX5_addSteps 93 = .ok (.goto 77, 3) := by decide +kernel
theorem dX5_addSteps_96 : decode cX5_addSteps 96 = .ok (.iload 6, 2) := by decide +kernel
theorem dX5_addSteps_98 : decode cX5_addSteps 98 = .ok (.istore_n 3, 1) := by decide +kernel
theorem dX5_addSteps_99 : decode cX5_addSteps 99 = .ok (.aload_n 0, 1) := by decide +kernel
theorem dX5_addSteps_100 : decode cX5_addSteps 100 = .ok (.iload 5, 2) := by decide +kernel
theorem dX5_addSteps_102 : decode cX5_addSteps 102 = .ok (.iload_n 1, 1) := by decide +kernel
theorem dX5_addSteps_103 : decode cX5_addSteps 103 = .ok (.iload_n 2, 1) := by decide +kernel
theorem dX5_addSteps_104 : decode cX5_addSteps 104 = .ok (.invokevirtual 156, 3) := by decide +kernel
theorem dX5_addSteps_107 : decode cX5_addSteps 107 = .ok (.istore 7, 2) := by decide +kernel
theorem dX5_addSteps_109 : decode cX5_addSteps 109 = .ok (.aload_n 0, 1) := by decide +kernel
theorem dX5_addSteps_110 : decode cX5_addSteps 110 = .ok (.iload 7, 2) := by decide +kernel
theorem dX5_addSteps_112 : decode cX5_addSteps 112 = .ok (.invokevirtual 159, 3) := by decide +kernel
theorem dX5_addSteps_115 : decode cX5_addSteps 115 = .ok (.istore 8, 2) := by decide +kernel
theorem dX5_addSteps_117 : decode cX5_addSteps 117 = .ok (.iconst 0, 1) := by decide +kernel
theorem dX5_addSteps_118 : decode cX5_addSteps 118 = .ok (.istore 9, 2) := by decide +kernel
theorem dX5_addSteps_120 : decode cX5_addSteps 120 = .ok (.iload 9, 2) := by decide +kernel
theorem dX5_addSteps_122 : decode cX5_addSteps 122 = .ok (.iload 8, 2) := by decide +kernel
theorem dX5_addSteps_124 : decode cX5_addSteps 124 = .ok (.if_icmp .ge 35, 3) := by decide +kernel
theorem dX5_addSteps_127 : decode cX5_addSteps 127 = .ok (.aload_n 0, 1) := by decide +kernel
theorem dX5_addSteps_128 : decode cX5_addSteps 128 = .ok (.iload 7, 2) := by decide +kernel
theorem dX5_addSteps_130 : decode cX5_addSteps 130 = .ok (.aload_n 0, 1) := by decide +kernel
theorem dX5_addSteps_131 : decode cX5_addSteps 131 = .ok (.getfield 22, 3) := by decide +kernel
theorem dX5_addSteps_134 : decode cX5_addSteps 134 = .ok (.getfield 163, 3) := by decide +kernel
theorem dX5_addSteps_137 : decode cX5_addSteps 137 = .ok (.iload_n 2, 1) := by decide +kernel
theorem dX5_addSteps_138 : decode cX5_addSteps 138 = .ok (.iconst 1, 1) := by decide +kernel
theorem dX5_addSteps_139 : decode cX5_addSteps 139 = .ok (.ishr, 1) := by decide +kernel
theorem dX5_addSteps_140 : decode cX5_addSteps 140 = .ok (.bipush 6, 2) := by decide +kernel
theorem dX5_addSteps_142 : decode cX5_addSteps 142 = .ok (.imul, 1) := by decide +kernel
theorem dX5_addSteps_143 : decode cX5_addSteps 143 = .ok (.iload 9, 2) := by decide +kernel
theorem dX5_addSteps_145 : decode cX5_addSteps 145 = .ok (.iadd, 1) := by decide +kernel
theorem dX5_addSteps_146 : decode cX5_addSteps 146 = .ok (.iaload, 1) := by decide +kernel
theorem dX5_addSteps_147 : decode cX5_addSteps 147 = .ok (.invokestatic 166, 3) := by decide +kernel
theorem dX5_addSteps_150 : decode cX5_addSteps 150 = .ok (.invokevirtual 170, 3) := by decide +kernel
theorem dX5_addSteps_153 : decode cX5_addSteps 153 = .ok (.iinc 9 1, 3) := by decide +kernel
theorem dX5_addSteps_156 : decode cX5_addSteps 156 = .ok (.goto (-36), 3) := by decide +kernel
theorem dX5_addSteps_159 : decode cX5_addSteps 159 = .ok (.iload 8, 2) := by decide +kernel
theorem dX5_addSteps_161 : decode cX5_addSteps 161 = .ok (.ifCond .ne 9, 3) := by decide +kernel
theorem dX5_addSteps_164 : decode cX5_addSteps 164 = .ok (.aload_n 0, 1) := by decide +kernel
theorem dX5_addSteps_165 : decode cX5_addSteps 165 = .ok (.iload 7, 2) := by decide +kernel
theorem dX5_addSteps_167 : decode cX5_addSteps 167 = .ok (.invokevirtual 170, 3) := by decide +kernel
theorem dX5_addSteps_170 : decode cX5_addSteps 170 = .ok (.iinc 5 1, 3) := by decide +kernel
theorem dX5_addSteps_173 : decode cX5_addSteps 173 = .ok (.goto (-128), 3) := by decide +kernel
theorem dX5_addSteps_176 : decode cX5_addSteps 176 = .ok (.return_, 1) := by decide +kernel
set_option maxRecDepth 20000 in
theorem moX5_addSteps_170 {o : Hp} {k_45 : Hp → Nat → Int32 → Int32 → Int32 → Int32 → Int32 → Option (Hp)} {F : Nat} (mk_45 : ∀ (h : Hp) (x0 : Nat) (x1 : Int32) (x2 : Int32) (x3 : Int32) (x4 : Int32) (x5 : Int32), k_45 h x0 x1 x2 x3 x4 x5 = some o → Le h o) {h : Hp} {x0 : Nat} {x1 : Int32} {x2 : Int32} {x3 : Int32} {x4 : Int32} {x5 : Int32} (hE : sX5_addSteps_170 F k_45 h x0 x1 x2 x3 x4 x5 = some o) : Le h o := by
  obtain ⟨v_1, ev_1, hE⟩ := nm_e2 hE
  exact mk_45 _ _ _ _ _ _ _ hE
set_option maxRecDepth 20000 in
theorem moX5_addSteps_120 {o : Hp} {k_45 : Hp → Nat → Int32 → Int32 → Int32 → Int32 → Int32 → Option (Hp)} {F : Nat} (mk_45 : ∀ (h : Hp) (x0 : Nat) (x1 : Int32) (x2 : Int32) (x3 : Int32) (x4 : Int32) (x5 : Int32), k_45 h x0 x1 x2 x3 x4 x5 = some o → Le h o) : ∀ (f : Nat) {h : Hp} {x0 : Nat} {x1 : Int32} {x2 : Int32} {x3 : Int32} {x4 : Int32} {x5 : Int32} {x7 : Int32} {x8 : Int32} {x9 : Int32}, sX5_addSteps_120 F k_45 f h x0 x1 x2 x3 x4 x5 x7 x8 x9 = some o → Le h o := by
  intro f
  induction f with
  | zero =>
    intro h x0 x1 x2 x3 x4 x5 x7 x8 x9 hE
    rw [sX5_addSteps_120] at hE
    cases hE
  | succ f ih =>
    intro h x0 x1 x2 x3 x4 x5 x7 x8 x9 hE
    rw [sX5_addSteps_120] at hE
    have mk_120 : ∀ (h : Hp) (x0 : Nat) (x1 : Int32) (x2 : Int32) (x3 : Int32) (x4 : Int32) (x5 : Int32) (x7 : Int32) (x8 : Int32) (x9 : Int32), sX5_addSteps_120 F k_45 f h x0 x1 x2 x3 x4 x5 x7 x8 x9 = some o → Le h o := fun h x0 x1 x2 x3 x4 x5 x7 x8 x9 hE => ih hE
    rcases br_e hE with ⟨_, hE⟩ | ⟨_, hE⟩
    · rcases br_e hE with ⟨_, hE⟩ | ⟨_, hE⟩
      · obtain ⟨o_3, eo_3, hE⟩ := cl_e hE
        refine (moX5_addMove eo_3).tr ?_
        exact moX5_addSteps_170 mk_45 hE
      · exact moX5_addSteps_170 mk_45 hE
    · obtain ⟨r_4, er_4, hE⟩ := cl_e hE
      obtain ⟨r_5, er_5, hE⟩ := cl_e hE
      obtain ⟨g_6, hE⟩ := gd_e hE
      obtain ⟨o_7, eo_7, hE⟩ := cl_e hE
      refine (moX5_becoming eo_7).tr ?_
      obtain ⟨o_8, eo_8, hE⟩ := cl_e hE
      refine (moX5_addMove eo_8).tr ?_
      obtain ⟨v_9, ev_9, hE⟩ := nm_e2 hE
      exact mk_120 _ _ _ _ _ _ _ _ _ _ hE
set_option maxRecDepth 20000 in
theorem moX5_addSteps_45 {o : Hp} {F : Nat} : ∀ (f : Nat) {h : Hp} {x0 : Nat} {x1 : Int32} {x2 : Int32} {x3 : Int32} {x4 : Int32} {x5 : Int32}, sX5_addSteps_45 F f h x0 x1 x2 x3 x4 x5 = some o → Le h o := by
  intro f
  induction f with
  | zero =>
    intro h x0 x1 x2 x3 x4 x5 hE
    rw [sX5_addSteps_45] at hE
    cases hE
  | succ f ih =>
    intro h x0 x1 x2 x3 x4 x5 hE
    rw [sX5_addSteps_45] at hE
    have mk_45 : ∀ (h : Hp) (x0 : Nat) (x1 : Int32) (x2 : Int32) (x3 : Int32) (x4 : Int32) (x5 : Int32), sX5_addSteps_45 F f h x0 x1 x2 x3 x4 x5 = some o → Le h o := fun h x0 x1 x2 x3 x4 x5 hE => ih hE
    rcases br_e hE with ⟨_, hE⟩ | ⟨_, hE⟩
    · exact le_some1 hE
    · obtain ⟨r_2, er_2, hE⟩ := cl_e hE
      obtain ⟨r_3, er_3, hE⟩ := cl_e hE
      obtain ⟨g_4, hE⟩ := gd_e hE
      obtain ⟨v_5, ev_5, hE⟩ := nm_e2 hE
      rcases br_e hE with ⟨_, hE⟩ | ⟨_, hE⟩
      · exact moX5_addSteps_170 mk_45 hE
      · obtain ⟨r_7, er_7, hE⟩ := cl_e hE
        obtain ⟨r_8, er_8, hE⟩ := cl_e hE
        obtain ⟨o_9, eo_9, hE⟩ := cl_e hE
        refine (moX5_leads eo_9).tr ?_
        rcases br_e hE with ⟨_, hE⟩ | ⟨_, hE⟩
        · exact moX5_addSteps_170 mk_45 hE
        · obtain ⟨o_11, eo_11, hE⟩ := cl_e hE
          refine (moX5_moveAlong eo_11).tr ?_
          obtain ⟨o_12, eo_12, hE⟩ := cl_e hE
          refine (moX5_choices eo_12).tr ?_
          exact moX5_addSteps_120 mk_45 _ hE
set_option maxRecDepth 20000 in
theorem moX5_addSteps {o : Hp} {F : Nat} {h : Hp} {x0 : Nat} {x1 : Int32} (hE : sX5_addSteps F h x0 x1 = some o) : Le h o := by
  obtain ⟨r_1, er_1, hE⟩ := cl_e hE
  obtain ⟨r_2, er_2, hE⟩ := cl_e hE
  obtain ⟨g_3, hE⟩ := gd_e hE
  obtain ⟨v_4, ev_4, hE⟩ := nm_e2 hE
  obtain ⟨r_5, er_5, hE⟩ := cl_e hE
  obtain ⟨r_6, er_6, hE⟩ := cl_e hE
  obtain ⟨o_7, eo_7, hE⟩ := cl_e hE
  refine (moX10_cell eo_7).tr ?_
  obtain ⟨g_8, hE⟩ := gd_e hE
  obtain ⟨v_9, ev_9, hE⟩ := nm_e2 hE
  obtain ⟨r_10, er_10, hE⟩ := cl_e hE
  obtain ⟨r_11, er_11, hE⟩ := cl_e hE
  obtain ⟨o_12, eo_12, hE⟩ := cl_e hE
  refine (moX10_cell eo_12).tr ?_
  obtain ⟨g_13, hE⟩ := gd_e hE
  obtain ⟨v_14, ev_14, hE⟩ := nm_e2 hE
  exact moX5_addSteps_45 _ hE
set_option maxRecDepth 20000 in
theorem bX5_addSteps_170 {p : Program} {l : Launch} {e : Env} {s : State} {m : MethodId} {args : Array Value} {below : List Frame} {meth : Method} {c : Code} {X : Ec} {h0 : Hp} {o : Hp} {k_45 : Hp → Nat → Int32 → Int32 → Int32 → Int32 → Int32 → Option (Hp)} {F : Nat} (C : Cx X p s m args meth c RX5 cX5_addSteps 10 none "addSteps") (hk_45 : ∀ (h : Hp) (x0 : Nat) (x1 : Int32) (x2 : Int32) (x3 : Int32) (x4 : Int32) (x5 : Int32) (H : Heap) (locs : List Loc), hK h x0 = 5 → Km h0 h → Wx X h H → va_S (aA (eB X)) s.heap H locs → ∀ (ls : Array Slot), lv_has ls 10 [(0, .ref x0), (1, .int x1), (2, .int x2), (3, .int x3), (4, .int x4), (5, .int x5)] → k_45 h x0 x1 x2 x3 x4 x5 = some o → W p l e (rm 2 52) s m args below meth c H locs 0 0 (MQ below (QV X h0 o) args s 0 0 (aA (eB X))) (F0 m 45 ls [])) {h : Hp} {x0 : Nat} {x1 : Int32} {x2 : Int32} {x3 : Int32} {x4 : Int32} {x5 : Int32} {H : Heap} {locs : List Loc} (k_x0 : hK h x0 = 5) (hkm : Km h0 h) (hW : Wx X h H) (hZ : va_S (aA (eB X)) s.heap H locs) (ls : Array Slot) (hl : lv_has ls 10 [(0, .ref x0), (1, .int x1), (2, .int x2), (3, .int x3), (4, .int x4), (5, .int x5)]) (hE : sX5_addSteps_170 F k_45 h x0 x1 x2 x3 x4 x5 = some o) : W p l e (rm 2 52) s m args below meth c H locs 0 0 (MQ below (QV X h0 o) args s 0 0 (aA (eB X))) (F0 m 170 ls []) := by
  obtain ⟨v_1, ev_1, hE⟩ := nm_e2 hE
  refine lv_iinc (v := v_1) (lv' := [(5, .int v_1), (0, .ref x0), (1, .int x1), (2, .int x2), (3, .int x3), (4, .int x4)]) C.1 C.2.1 dX5_addSteps_170 hl (k := 5) rfl (by rw [ev_1]; rfl) (by decide) rfl (fun ls hl => ?_)
  refine lv_goto (tgt := 45) C.1 C.2.1 dX5_addSteps_173 (by decide) ?_
  exact hk_45 _ _ _ _ _ _ _ _ _ k_x0 hkm hW hZ _ (lv_sub hl [1, 2, 3, 4, 5, 0] rfl) hE
set_option maxRecDepth 20000 in
theorem bX5_addSteps_120 {p : Program} {l : Launch} {e : Env} {s : State} {m : MethodId} {args : Array Value} {below : List Frame} {meth : Method} {c : Code} {X : Ec} {h0 : Hp} {o : Hp} {k_45 : Hp → Nat → Int32 → Int32 → Int32 → Int32 → Int32 → Option (Hp)} {F : Nat} (C : Cx X p s m args meth c RX5 cX5_addSteps 10 none "addSteps") (hk_45 : ∀ (h : Hp) (x0 : Nat) (x1 : Int32) (x2 : Int32) (x3 : Int32) (x4 : Int32) (x5 : Int32) (H : Heap) (locs : List Loc), hK h x0 = 5 → Km h0 h → Wx X h H → va_S (aA (eB X)) s.heap H locs → ∀ (ls : Array Slot), lv_has ls 10 [(0, .ref x0), (1, .int x1), (2, .int x2), (3, .int x3), (4, .int x4), (5, .int x5)] → k_45 h x0 x1 x2 x3 x4 x5 = some o → W p l e (rm 2 52) s m args below meth c H locs 0 0 (MQ below (QV X h0 o) args s 0 0 (aA (eB X))) (F0 m 45 ls [])) : ∀ (f : Nat) {h : Hp} {x0 : Nat} {x1 : Int32} {x2 : Int32} {x3 : Int32} {x4 : Int32} {x5 : Int32} {x7 : Int32} {x8 : Int32} {x9 : Int32} {H : Heap} {locs : List Loc} (k_x0 : hK h x0 = 5), Km h0 h → Wx X h H → va_S (aA (eB X)) s.heap H locs → ∀ (ls : Array Slot), lv_has ls 10 [(0, .ref x0), (1, .int x1), (2, .int x2), (3, .int x3), (4, .int x4), (5, .int x5), (7, .int x7), (8, .int x8), (9, .int x9)] → sX5_addSteps_120 F k_45 f h x0 x1 x2 x3 x4 x5 x7 x8 x9 = some o → W p l e (rm 2 52) s m args below meth c H locs 0 0 (MQ below (QV X h0 o) args s 0 0 (aA (eB X))) (F0 m 120 ls []) := by
  intro f
  induction f with
  | zero =>
    intro h x0 x1 x2 x3 x4 x5 x7 x8 x9 H locs k_x0 hkm hW hZ ls hl hE
    rw [sX5_addSteps_120] at hE
    cases hE
  | succ f ih =>
    intro h x0 x1 x2 x3 x4 x5 x7 x8 x9 H locs k_x0 hkm hW hZ ls hl hE
    rw [sX5_addSteps_120] at hE
    have hk_120 : ∀ (h : Hp) (x0 : Nat) (x1 : Int32) (x2 : Int32) (x3 : Int32) (x4 : Int32) (x5 : Int32) (x7 : Int32) (x8 : Int32) (x9 : Int32) (H : Heap) (locs : List Loc), hK h x0 = 5 → Km h0 h → Wx X h H → va_S (aA (eB X)) s.heap H locs → ∀ (ls : Array Slot), lv_has ls 10 [(0, .ref x0), (1, .int x1), (2, .int x2), (3, .int x3), (4, .int x4), (5, .int x5), (7, .int x7), (8, .int x8), (9, .int x9)] → sX5_addSteps_120 F k_45 f h x0 x1 x2 x3 x4 x5 x7 x8 x9 = some o → W p l e (rm 2 52) s m args below meth c H locs 0 0 (MQ below (QV X h0 o) args s 0 0 (aA (eB X))) (F0 m 120 ls []) := fun h x0 x1 x2 x3 x4 x5 x7 x8 x9 H locs k_x0 a b c ls hl hE => ih k_x0 a b c ls hl hE
    refine lv_iload C.1 C.2.1 dX5_addSteps_120 (lv_at hl 8 rfl) ?_
    refine lv_iload C.1 C.2.1 dX5_addSteps_122 (lv_at hl 7 rfl) ?_
    refine lv_icmp_ge (tgt := 159) C.1 C.2.1 dX5_addSteps_124 (by decide) (fun c_1 => ?_) (fun c_1 => ?_)
    · have hE := br_p hE c_1
      refine lv_iload C.1 C.2.1 dX5_addSteps_159 (lv_at hl 7 rfl) ?_
      refine lv_if_ne (tgt := 170) C.1 C.2.1 dX5_addSteps_161 (by decide) (fun c_2 => ?_) (fun c_2 => ?_)
      · have hE := br_n hE c_2
        exact bX5_addSteps_170 C hk_45 k_x0 hkm hW hZ _ (lv_sub hl [0, 1, 2, 3, 4, 5] rfl) hE
      · have hE := br_p hE c_2
        refine lv_aload_n C.1 C.2.1 dX5_addSteps_164 rfl (lv_at hl 0 rfl) ?_
        refine lv_iload C.1 C.2.1 dX5_addSteps_165 (lv_at hl 6 rfl) ?_
        obtain ⟨o_3, eo_3, hE⟩ := cl_e hE
        refine x_kV (o := o_3) (z_runV (As := [.int x7]) (rest := []) C (ct_X5_addMove l X k_x0 eo_3) cw_X5_170 hW hZ k_x0 (by decide) rfl rfl rfl hl.1 (Nat.le_of_ble_eq_true rfl) rfl dX5_addSteps_167 ⟨Nat.le_of_ble_eq_true rfl, Nat.le_of_ble_eq_true rfl⟩ ⟨Nat.le_refl _, Nat.le_refl _⟩) hZ (fun _ _ hW km hZ => ?_)
        replace hkm := hkm.tr km
        replace k_x0 := km.at k_x0 (by decide)
        exact bX5_addSteps_170 C hk_45 k_x0 hkm hW hZ _ (lv_sub hl [0, 1, 2, 3, 4, 5] rfl) hE
    · have hE := br_n hE c_1
      refine lv_aload_n C.1 C.2.1 dX5_addSteps_127 rfl (lv_at hl 0 rfl) ?_
      refine lv_iload C.1 C.2.1 dX5_addSteps_128 (lv_at hl 6 rfl) ?_
      refine lv_aload_n C.1 C.2.1 dX5_addSteps_130 rfl (lv_at hl 0 rfl) ?_
      obtain ⟨r_4, er_4, hE⟩ := cl_e hE
      refine gf_X5_22 C hW k_x0 er_4 dX5_addSteps_131 (fun k_r_4 => ?_)
      obtain ⟨r_5, er_5, hE⟩ := cl_e hE
      refine gf_X5_163 C hW k_r_4 er_5 dX5_addSteps_134 (fun k_r_5 => ?_)
      refine lv_iload_n C.1 C.2.1 dX5_addSteps_137 rfl (lv_at hl 2 rfl) ?_
      refine lv_iconst (v := (1 : Int32)) C.1 C.2.1 dX5_addSteps_138 (by decide) ?_
      refine lv_ishr C.1 C.2.1 dX5_addSteps_139 ?_
      refine lv_bipush (v := (6 : Int32)) C.1 C.2.1 dX5_addSteps_140 (by decide) ?_
      refine lv_imul C.1 C.2.1 dX5_addSteps_142 ?_
      refine lv_iload C.1 C.2.1 dX5_addSteps_143 (lv_at hl 8 rfl) ?_
      refine lv_iadd C.1 C.2.1 dX5_addSteps_145 ?_
      obtain ⟨g_6, hE⟩ := gd_e hE
      refine y_iald C hW k_r_5 g_6 dX5_addSteps_146 ?_
      obtain ⟨o_7, eo_7, hE⟩ := cl_e hE
      refine x_kI (o := o_7) (z_runS (As := [.int x7, .int (hI h r_5 (((x2 >>> ((1 : Int32) &&& 31)) * (6 : Int32)) + x9).toNatClampNeg)]) (rest := [.ref x0]) C (ct_X5_becoming l X eo_7) cw_X5_166 hW hZ rfl hl.1 (Nat.le_of_ble_eq_true rfl) rfl dX5_addSteps_147 ⟨Nat.le_of_ble_eq_true rfl, Nat.le_of_ble_eq_true rfl⟩ ⟨Nat.le_refl _, Nat.le_refl _⟩) hZ (fun _ _ hW km hZ => ?_)
      replace hkm := hkm.tr km
      replace k_x0 := km.at k_x0 (by decide)
      obtain ⟨o_8, eo_8, hE⟩ := cl_e hE
      refine x_kV (o := o_8) (z_runV (As := [.int o_7.1]) (rest := []) C (ct_X5_addMove l X k_x0 eo_8) cw_X5_170 hW hZ k_x0 (by decide) rfl rfl rfl hl.1 (Nat.le_of_ble_eq_true rfl) rfl dX5_addSteps_150 ⟨Nat.le_of_ble_eq_true rfl, Nat.le_of_ble_eq_true rfl⟩ ⟨Nat.le_refl _, Nat.le_refl _⟩) hZ (fun _ _ hW km hZ => ?_)
      replace hkm := hkm.tr km
      replace k_x0 := km.at k_x0 (by decide)
      obtain ⟨v_9, ev_9, hE⟩ := nm_e2 hE
      refine lv_iinc (v := v_9) (lv' := [(9, .int v_9), (0, .ref x0), (1, .int x1), (2, .int x2), (3, .int x3), (4, .int x4), (5, .int x5), (7, .int x7), (8, .int x8)]) C.1 C.2.1 dX5_addSteps_153 hl (k := 8) rfl (by rw [ev_9]; rfl) (by decide) rfl (fun ls hl => ?_)
      refine lv_goto (tgt := 120) C.1 C.2.1 dX5_addSteps_156 (by decide) ?_
      exact hk_120 _ _ _ _ _ _ _ _ _ _ _ _ k_x0 hkm hW hZ _ (lv_sub hl [1, 2, 3, 4, 5, 6, 7, 8, 0] rfl) hE
set_option maxRecDepth 20000 in
theorem bX5_addSteps_45 {p : Program} {l : Launch} {e : Env} {s : State} {m : MethodId} {args : Array Value} {below : List Frame} {meth : Method} {c : Code} {X : Ec} {h0 : Hp} {o : Hp} {F : Nat} (C : Cx X p s m args meth c RX5 cX5_addSteps 10 none "addSteps") : ∀ (f : Nat) {h : Hp} {x0 : Nat} {x1 : Int32} {x2 : Int32} {x3 : Int32} {x4 : Int32} {x5 : Int32} {H : Heap} {locs : List Loc} (k_x0 : hK h x0 = 5), Km h0 h → Wx X h H → va_S (aA (eB X)) s.heap H locs → ∀ (ls : Array Slot), lv_has ls 10 [(0, .ref x0), (1, .int x1), (2, .int x2), (3, .int x3), (4, .int x4), (5, .int x5)] → sX5_addSteps_45 F f h x0 x1 x2 x3 x4 x5 = some o → W p l e (rm 2 52) s m args below meth c H locs 0 0 (MQ below (QV X h0 o) args s 0 0 (aA (eB X))) (F0 m 45 ls []) := by
  intro f
  induction f with
  | zero =>
    intro h x0 x1 x2 x3 x4 x5 H locs k_x0 hkm hW hZ ls hl hE
    rw [sX5_addSteps_45] at hE
    cases hE
  | succ f ih =>
    intro h x0 x1 x2 x3 x4 x5 H locs k_x0 hkm hW hZ ls hl hE
    rw [sX5_addSteps_45] at hE
    have hk_45 : ∀ (h : Hp) (x0 : Nat) (x1 : Int32) (x2 : Int32) (x3 : Int32) (x4 : Int32) (x5 : Int32) (H : Heap) (locs : List Loc), hK h x0 = 5 → Km h0 h → Wx X h H → va_S (aA (eB X)) s.heap H locs → ∀ (ls : Array Slot), lv_has ls 10 [(0, .ref x0), (1, .int x1), (2, .int x2), (3, .int x3), (4, .int x4), (5, .int x5)] → sX5_addSteps_45 F f h x0 x1 x2 x3 x4 x5 = some o → W p l e (rm 2 52) s m args below meth c H locs 0 0 (MQ below (QV X h0 o) args s 0 0 (aA (eB X))) (F0 m 45 ls []) := fun h x0 x1 x2 x3 x4 x5 H locs k_x0 a b c ls hl hE => ih k_x0 a b c ls hl hE
    refine lv_iload C.1 C.2.1 dX5_addSteps_45 (lv_at hl 5 rfl) ?_
    refine lv_iload C.1 C.2.1 dX5_addSteps_47 (lv_at hl 4 rfl) ?_
    refine lv_icmp_ge (tgt := 176) C.1 C.2.1 dX5_addSteps_49 (by decide) (fun c_1 => ?_) (fun c_1 => ?_)
    · have hE := br_p hE c_1
      exact x_vret C rfl hW hZ hkm hE dX5_addSteps_176
    · have hE := br_n hE c_1
      refine lv_aload_n C.1 C.2.1 dX5_addSteps_52 rfl (lv_at hl 0 rfl) ?_
      obtain ⟨r_2, er_2, hE⟩ := cl_e hE
      refine gf_X5_26 C hW k_x0 er_2 dX5_addSteps_53 (fun k_r_2 => ?_)
      obtain ⟨r_3, er_3, hE⟩ := cl_e hE
      refine gf_X5_54 C hW k_r_2 er_3 dX5_addSteps_56 (fun k_r_3 => ?_)
      refine lv_iload C.1 C.2.1 dX5_addSteps_59 (lv_at hl 5 rfl) ?_
      obtain ⟨g_4, hE⟩ := gd_e hE
      refine y_iald C hW k_r_3 g_4 dX5_addSteps_61 ?_
      refine lv_bipush (v := (63 : Int32)) C.1 C.2.1 dX5_addSteps_62 (by decide) ?_
      refine lv_iand C.1 C.2.1 dX5_addSteps_64 ?_
      obtain ⟨v_5, ev_5, hE⟩ := nm_e2 hE
      refine x_nmI ev_5 ?_
      refine lv_istore (lv' := [(6, .int v_5), (0, .ref x0), (1, .int x1), (2, .int x2), (3, .int x3), (4, .int x4), (5, .int x5)]) C.1 C.2.1 dX5_addSteps_65 hl (by decide) rfl (fun ls hl => ?_)
      refine lv_iload C.1 C.2.1 dX5_addSteps_67 (lv_at hl 0 rfl) ?_
      refine lv_iload_n C.1 C.2.1 dX5_addSteps_69 rfl (lv_at hl 4 rfl) ?_
      refine lv_icmp_eq (tgt := 170) C.1 C.2.1 dX5_addSteps_70 (by decide) (fun c_6 => ?_) (fun c_6 => ?_)
      · have hE := br_p hE c_6
        exact bX5_addSteps_170 C hk_45 k_x0 hkm hW hZ _ (lv_sub hl [1, 2, 3, 4, 5, 6] rfl) hE
      · have hE := br_n hE c_6
        refine lv_aload_n C.1 C.2.1 dX5_addSteps_73 rfl (lv_at hl 1 rfl) ?_
        refine lv_aload_n C.1 C.2.1 dX5_addSteps_74 rfl (lv_at hl 1 rfl) ?_
        obtain ⟨r_7, er_7, hE⟩ := cl_e hE
        refine gf_X5_71 C hW k_x0 er_7 dX5_addSteps_75 (fun k_r_7 => ?_)
        refine lv_iload C.1 C.2.1 dX5_addSteps_78 (lv_at hl 6 rfl) ?_
        refine lv_aload_n C.1 C.2.1 dX5_addSteps_80 rfl (lv_at hl 1 rfl) ?_
        obtain ⟨r_8, er_8, hE⟩ := cl_e hE
        refine gf_X5_71 C hW k_x0 er_8 dX5_addSteps_81 (fun k_r_8 => ?_)
        refine gf_X5_78 C hW k_r_8 dX5_addSteps_84 ?_
        obtain ⟨o_9, eo_9, hE⟩ := cl_e hE
        refine x_kI (o := o_9) (z_runV (As := [.ref r_7, .int x5, .int (hI h r_8 5)]) (rest := []) C (ct_X5_leads l X k_x0 k_r_7 eo_9) cw_X5_153 hW hZ k_x0 (by decide) rfl rfl rfl hl.1 (Nat.le_of_ble_eq_true rfl) rfl dX5_addSteps_87 ⟨Nat.le_of_ble_eq_true rfl, Nat.le_of_ble_eq_true rfl⟩ ⟨Nat.le_refl _, Nat.le_refl _⟩) hZ (fun _ _ hW km hZ => ?_)
        replace hkm := hkm.tr km
        replace k_x0 := km.at k_x0 (by decide)
        refine lv_if_ne (tgt := 96) C.1 C.2.1 dX5_addSteps_90 (by decide) (fun c_10 => ?_) (fun c_10 => ?_)
        · have hE := br_n hE c_10
          refine lv_iload C.1 C.2.1 dX5_addSteps_96 (lv_at hl 0 rfl) ?_
          refine lv_istore_n (lv' := [(3, .int v_5), (6, .int v_5), (0, .ref x0), (1, .int x1), (2, .int x2), (4, .int x4), (5, .int x5)]) C.1 C.2.1 dX5_addSteps_98 rfl hl (by decide) rfl (fun ls hl => ?_)
          refine lv_aload_n C.1 C.2.1 dX5_addSteps_99 rfl (lv_at hl 2 rfl) ?_
          refine lv_iload C.1 C.2.1 dX5_addSteps_100 (lv_at hl 6 rfl) ?_
          refine lv_iload_n C.1 C.2.1 dX5_addSteps_102 rfl (lv_at hl 3 rfl) ?_
          refine lv_iload_n C.1 C.2.1 dX5_addSteps_103 rfl (lv_at hl 4 rfl) ?_
          obtain ⟨o_11, eo_11, hE⟩ := cl_e hE
          refine x_kI (o := o_11) (z_runV (As := [.int x5, .int x1, .int x2]) (rest := []) C (ct_X5_moveAlong l X k_x0 eo_11) cw_X5_156 hW hZ k_x0 (by decide) rfl rfl rfl hl.1 (Nat.le_of_ble_eq_true rfl) rfl dX5_addSteps_104 ⟨Nat.le_of_ble_eq_true rfl, Nat.le_of_ble_eq_true rfl⟩ ⟨Nat.le_refl _, Nat.le_refl _⟩) hZ (fun _ _ hW km hZ => ?_)
          replace hkm := hkm.tr km
          replace k_x0 := km.at k_x0 (by decide)
          refine lv_istore (lv' := [(7, .int o_11.1), (3, .int v_5), (6, .int v_5), (0, .ref x0), (1, .int x1), (2, .int x2), (4, .int x4), (5, .int x5)]) C.1 C.2.1 dX5_addSteps_107 hl (by decide) rfl (fun ls hl => ?_)
          refine lv_aload_n C.1 C.2.1 dX5_addSteps_109 rfl (lv_at hl 3 rfl) ?_
          refine lv_iload C.1 C.2.1 dX5_addSteps_110 (lv_at hl 0 rfl) ?_
          obtain ⟨o_12, eo_12, hE⟩ := cl_e hE
          refine x_kI (o := o_12) (z_runV (As := [.int o_11.1]) (rest := []) C (ct_X5_choices l X k_x0 eo_12) cw_X5_159 hW hZ k_x0 (by decide) rfl rfl rfl hl.1 (Nat.le_of_ble_eq_true rfl) rfl dX5_addSteps_112 ⟨Nat.le_of_ble_eq_true rfl, Nat.le_of_ble_eq_true rfl⟩ ⟨Nat.le_refl _, Nat.le_refl _⟩) hZ (fun _ _ hW km hZ => ?_)
          replace hkm := hkm.tr km
          replace k_x0 := km.at k_x0 (by decide)
          refine lv_istore (lv' := [(8, .int o_12.1), (7, .int o_11.1), (3, .int v_5), (6, .int v_5), (0, .ref x0), (1, .int x1), (2, .int x2), (4, .int x4), (5, .int x5)]) C.1 C.2.1 dX5_addSteps_115 hl (by decide) rfl (fun ls hl => ?_)
          refine lv_iconst (v := (0 : Int32)) C.1 C.2.1 dX5_addSteps_117 (by decide) ?_
          refine lv_istore (lv' := [(9, .int (0 : Int32)), (8, .int o_12.1), (7, .int o_11.1), (3, .int v_5), (6, .int v_5), (0, .ref x0), (1, .int x1), (2, .int x2), (4, .int x4), (5, .int x5)]) C.1 C.2.1 dX5_addSteps_118 hl (by decide) rfl (fun ls hl => ?_)
          exact bX5_addSteps_120 C hk_45 F k_x0 hkm hW hZ _ (lv_sub hl [5, 6, 7, 3, 8, 9, 2, 1, 0] rfl) hE
        · have hE := br_p hE c_10
          refine lv_goto (tgt := 170) C.1 C.2.1 dX5_addSteps_93 (by decide) ?_
          exact bX5_addSteps_170 C hk_45 k_x0 hkm hW hZ _ (lv_sub hl [1, 2, 3, 4, 5, 6] rfl) hE
set_option maxRecDepth 20000 in
theorem ct_X5_addSteps (l : Launch) (X : Ec) (F : Nat) {h : Hp} {x0 : Nat} {x1 : Int32} {o : Hp} (k_x0 : hK h x0 = 5) (hE : sX5_addSteps F h x0 x1 = some o) : MetV l yX5_addSteps cX5_addSteps 10 none 2 52 X [.ref x0, .int x1] h o := by
  refine x_met (by decide) (Nat.le_of_ble_eq_true rfl) ?_
  intro p e s m below meth c ls C hl hW hZ
  have hl : lv_has ls 10 [(0, .ref x0), (1, .int x1)] := hl
  have hkm : Km h h := Km.rf h
  refine lv_aload_n C.1 C.2.1 dX5_addSteps_0 rfl (lv_at hl 0 rfl) ?_
  obtain ⟨r_1, er_1, hE⟩ := cl_e hE
  refine gf_X5_71 C hW k_x0 er_1 dX5_addSteps_1 (fun k_r_1 => ?_)
  obtain ⟨r_2, er_2, hE⟩ := cl_e hE
  refine gf_X5_42 C hW k_r_1 er_2 dX5_addSteps_4 (fun k_r_2 => ?_)
  refine lv_iload_n C.1 C.2.1 dX5_addSteps_7 rfl (lv_at hl 1 rfl) ?_
  obtain ⟨g_3, hE⟩ := gd_e hE
  refine y_bald C hW k_r_2 g_3 dX5_addSteps_8 ?_
  obtain ⟨v_4, ev_4, hE⟩ := nm_e2 hE
  refine x_nmI ev_4 ?_
  refine lv_istore_n (lv' := [(2, .int v_4), (0, .ref x0), (1, .int x1)]) C.1 C.2.1 dX5_addSteps_9 rfl hl (by decide) rfl (fun ls hl => ?_)
  refine lv_iconst (v := (-1 : Int32)) C.1 C.2.1 dX5_addSteps_10 (by decide) ?_
  refine lv_istore_n (lv' := [(3, .int (-1 : Int32)), (2, .int v_4), (0, .ref x0), (1, .int x1)]) C.1 C.2.1 dX5_addSteps_11 rfl hl (by decide) rfl (fun ls hl => ?_)
  refine lv_aload_n C.1 C.2.1 dX5_addSteps_12 rfl (lv_at hl 2 rfl) ?_
  obtain ⟨r_5, er_5, hE⟩ := cl_e hE
  refine gf_X5_26 C hW k_x0 er_5 dX5_addSteps_13 (fun k_r_5 => ?_)
  obtain ⟨r_6, er_6, hE⟩ := cl_e hE
  refine gf_X5_51 C hW k_r_5 er_6 dX5_addSteps_16 (fun k_r_6 => ?_)
  refine lv_iload_n C.1 C.2.1 dX5_addSteps_19 rfl (lv_at hl 1 rfl) ?_
  refine lv_iload_n C.1 C.2.1 dX5_addSteps_20 rfl (lv_at hl 3 rfl) ?_
  refine lv_bipush (v := (64 : Int32)) C.1 C.2.1 dX5_addSteps_21 (by decide) ?_
  obtain ⟨o_7, eo_7, hE⟩ := cl_e hE
  refine x_kI (o := o_7) (z_runS (As := [.int v_4, .int x1, .int (64 : Int32)]) (rest := [.ref r_6]) C (ct_X10_cell l X eo_7) cw_X5_142 hW hZ rfl hl.1 (Nat.le_of_ble_eq_true rfl) rfl dX5_addSteps_23 ⟨Nat.le_of_ble_eq_true rfl, Nat.le_of_ble_eq_true rfl⟩ ⟨Nat.le_refl _, Nat.le_refl _⟩) hZ (fun _ _ hW km hZ => ?_)
  replace hkm := hkm.tr km
  replace k_x0 := km.at k_x0 (by decide)
  replace k_r_6 := km.at k_r_6 (by decide)
  obtain ⟨g_8, hE⟩ := gd_e hE
  refine y_iald C hW k_r_6 g_8 dX5_addSteps_26 ?_
  obtain ⟨v_9, ev_9, hE⟩ := nm_e2 hE
  refine x_nmI ev_9 ?_
  refine lv_istore (lv' := [(4, .int v_9), (3, .int (-1 : Int32)), (2, .int v_4), (0, .ref x0), (1, .int x1)]) C.1 C.2.1 dX5_addSteps_27 hl (by decide) rfl (fun ls hl => ?_)
  refine lv_aload_n C.1 C.2.1 dX5_addSteps_29 rfl (lv_at hl 3 rfl) ?_
  obtain ⟨r_10, er_10, hE⟩ := cl_e hE
  refine gf_X5_26 C hW k_x0 er_10 dX5_addSteps_30 (fun k_r_10 => ?_)
  obtain ⟨r_11, er_11, hE⟩ := cl_e hE
  refine gf_X5_51 C hW k_r_10 er_11 dX5_addSteps_33 (fun k_r_11 => ?_)
  refine lv_iload_n C.1 C.2.1 dX5_addSteps_36 rfl (lv_at hl 2 rfl) ?_
  refine lv_iload_n C.1 C.2.1 dX5_addSteps_37 rfl (lv_at hl 4 rfl) ?_
  refine lv_iconst (v := (0 : Int32)) C.1 C.2.1 dX5_addSteps_38 (by decide) ?_
  obtain ⟨o_12, eo_12, hE⟩ := cl_e hE
  refine x_kI (o := o_12) (z_runS (As := [.int v_4, .int x1, .int (0 : Int32)]) (rest := [.ref r_11]) C (ct_X10_cell l X eo_12) cw_X5_142 hW hZ rfl hl.1 (Nat.le_of_ble_eq_true rfl) rfl dX5_addSteps_39 ⟨Nat.le_of_ble_eq_true rfl, Nat.le_of_ble_eq_true rfl⟩ ⟨Nat.le_refl _, Nat.le_refl _⟩) hZ (fun _ _ hW km hZ => ?_)
  replace hkm := hkm.tr km
  replace k_x0 := km.at k_x0 (by decide)
  replace k_r_11 := km.at k_r_11 (by decide)
  obtain ⟨g_13, hE⟩ := gd_e hE
  refine y_iald C hW k_r_11 g_13 dX5_addSteps_42 ?_
  obtain ⟨v_14, ev_14, hE⟩ := nm_e2 hE
  refine x_nmI ev_14 ?_
  refine lv_istore (lv' := [(5, .int v_14), (4, .int v_9), (3, .int (-1 : Int32)), (2, .int v_4), (0, .ref x0), (1, .int x1)]) C.1 C.2.1 dX5_addSteps_43 hl (by decide) rfl (fun ls hl => ?_)
  exact bX5_addSteps_45 C F k_x0 hkm hW hZ _ (lv_sub hl [4, 5, 3, 2, 1, 0] rfl) hE
set_option maxRecDepth 100000 in
theorem m_65 : Cond.fieldLink RX5 242 (TX1 0).1 (TX1 0).2.1 (TX1 0).2.2.1 ∈ W0 := w0_in (List.mem_append_right _ (List.mem_of_getElem? (i := 65) rfl)) rfl
set_option maxRecDepth 100000 in
theorem m_140 : Cond.fieldLink RX5 239 (TX1 19).1 (TX1 19).2.1 (TX1 19).2.2.1 ∈ W0 := w0_in (List.mem_append_right _ (List.mem_of_getElem? (i := 140) rfl)) rfl
section
variable {p : Program} {l : Launch} {e : Env} {R : Room} {s : State} {m : MethodId} {args : Array Value} {below : List Frame} {meth : Method} {c : Code} {H : Heap} {locs : List Loc} {cells slots : Nat} {Q : State → Prop}
variable {cc : ByteArray} {pc : Nat} {ls : Array Slot} {rest : List Value} {X : Ec} {h h1 : Hp} {nL : Nat} {rt : Option FieldType} {mn : String}
theorem gf_X5_242 {a : Nat} (C : Cx X p s m args meth c RX5 cc nL rt mn) (hW : Wx X h H) (ha : hK h a = 1) (hdg : decode cc pc = .ok (.getfield 242, 3)) (kk : W p l e R s m args below meth c H locs cells slots Q (F0 m (pc + 3) ls (.int (hI h a 0) :: rest))) : W p l e R s m args below meth c H locs cells slots Q (F0 m pc ls (.ref a :: rest)) :=
  y_geti C hW ha i_X1 (by decide) rfl (by decide) m_65 rfl hdg kk
theorem gf_X5_239 {a r : Nat} (C : Cx X p s m args meth c RX5 cc nL rt mn) (hW : Wx X h H) (ha : hK h a = 1) (hr : hR h a 19 = some r) (hdg : decode cc pc = .ok (.getfield 239, 3)) (kk : hK h r = 17 → W p l e R s m args below meth c H locs cells slots Q (F0 m (pc + 3) ls (.ref r :: rest))) : W p l e R s m args below meth c H locs cells slots Q (F0 m pc ls (.ref a :: rest)) :=
  y_getr C hW ha i_X1 (by decide) rfl (by decide) m_140 rfl rfl hr hdg kk
end
theorem dX5_nearest_0 : decode cX5_nearest 0 = .ok (.iload_n 2, 1) := by decide +kernel
theorem dX5_nearest_1 : decode cX5_nearest 1 = .ok (.istore 4, 2) := by decide +kernel
theorem dX5_nearest_3 : decode cX5_nearest 3 = .ok (.aload_n 0, 1) := by decide +kernel
theorem dX5_nearest_4 : decode cX5_nearest 4 = .ok (.getfield 22, 3) := by decide +kernel
theorem dX5_nearest_7 : decode cX5_nearest 7 = .ok (.getfield 239, 3) := by decide +kernel
theorem dX5_nearest_10 : decode cX5_nearest 10 = .ok (.iload_n 2, 1) := by decide +kernel
theorem dX5_nearest_11 : decode cX5_nearest 11 = .ok (.iaload, 1) := by decide +kernel
theorem dX5_nearest_12 : decode cX5_nearest 12 = .ok (.iload_n 3, 1) := by decide +kernel
theorem dX5_nearest_13 : decode cX5_nearest 13 = .ok (.iadd, 1) := by decide +kernel
theorem dX5_nearest_14 : decode cX5_nearest 14 = .ok (.istore 5, 2) := by decide +kernel
theorem dX5_nearest_16 : decode cX5_nearest 16 = .ok (.iload 5, 2) := by decide +kernel
theorem dX5_nearest_18 : decode cX5_nearest 18 = .ok (.ifCond .lt 44, 3) := by decide +kernel
theorem dX5_nearest_21 : decode cX5_nearest 21 = .ok (.iload 5, 2) := by decide +kernel
theorem dX5_nearest_23 : decode cX5_nearest 23 = .ok (.aload_n 0, 1) := by decide +kernel
theorem dX5_nearest_24 : decode cX5_nearest 24 = .ok (.getfield 22, 3) := by decide +kernel
theorem dX5_nearest_27 : decode cX5_nearest 27 = .ok (.getfield 242, 3) := by decide +kernel
theorem dX5_nearest_30 : decode cX5_nearest 30 = .ok (.if_icmp .ge 32, 3) := by decide +kernel
theorem dX5_nearest_33 : decode cX5_nearest 33 = .ok (.iload 4, 2) := by decide +kernel
theorem dX5_nearest_35 : decode cX5_nearest 35 = .ok (.iload_n 3, 1) := by decide +kernel
theorem dX5_nearest_36 : decode cX5_nearest 36 = .ok (.iadd, 1) := by decide +kernel
theorem dX5_nearest_37 : decode cX5_nearest 37 = .ok (.istore 4, 2) := by decide +kernel
theorem dX5_nearest_39 : decode cX5_nearest 39 = .ok (.aload_n 1, 1) := by decide +kernel
theorem dX5_nearest_40 : decode cX5_nearest 40 = .ok (.getfield 42, 3) := by decide +kernel
theorem dX5_nearest_43 : decode cX5_nearest 43 = .ok (.iload 4, 2) := by decide +kernel
theorem dX5_nearest_45 : decode cX5_nearest 45 = .ok (.baload, 1) := by decide +kernel
theorem dX5_nearest_46 : decode cX5_nearest 46 = .ok (.iconst (-1), 1) := by decide +kernel
theorem dX5_nearest_47 : decode cX5_nearest 47 = .ok (.if_icmp .eq 6, 3) := by decide +kernel
theorem dX5_nearest_50 : decode cX5_nearest 50 = .ok (.iload 4, 2) := by decide +kernel
theorem dX5_nearest_52 : decode cX5_nearest 52 = .ok (.ireturn, 1) := by decide +kernel
theorem dX5_nearest_53 : decode cX5_nearest 53 = .ok (.iload 5, 2) := by decide +kernel
theorem dX5_nearest_55 : decode cX5_nearest 55 = .ok (.iload_n 3, 1) := by decide +kernel
theorem dX5_nearest_56 : decode cX5_nearest 56 = .ok (.iadd, 1) := by decide +kernel
theorem dX5_nearest_57 : decode cX5_nearest 57 = .ok (.istore 5, 2) := by decide +kernel
theorem dX5_nearest_59 : decode cX5_nearest 59 = .ok (.goto (-43), 3) := by decide +kernel
theorem dX5_nearest_62 : decode cX5_nearest 62 = .ok (.iconst (-1), 1) := by decide +kernel
theorem dX5_nearest_63 : decode cX5_nearest 63 = .ok (.ireturn, 1) := by decide +kernel
set_option maxRecDepth 20000 in
theorem moX5_nearest_62 {o : Int32 × Hp} {F : Nat} {h : Hp} (hE : sX5_nearest_62 F h  = some o) : Le h o.2 := by
  exact le_some2 hE
set_option maxRecDepth 20000 in
theorem moX5_nearest_16 {o : Int32 × Hp} {F : Nat} : ∀ (f : Nat) {h : Hp} {x0 : Nat} {x1 : Nat} {x3 : Int32} {x4 : Int32} {x5 : Int32}, sX5_nearest_16 F f h x0 x1 x3 x4 x5 = some o → Le h o.2 := by
  intro f
  induction f with
  | zero =>
    intro h x0 x1 x3 x4 x5 hE
    rw [sX5_nearest_16] at hE
    cases hE
  | succ f ih =>
    intro h x0 x1 x3 x4 x5 hE
    rw [sX5_nearest_16] at hE
    have mk_16 : ∀ (h : Hp) (x0 : Nat) (x1 : Nat) (x3 : Int32) (x4 : Int32) (x5 : Int32), sX5_nearest_16 F f h x0 x1 x3 x4 x5 = some o → Le h o.2 := fun h x0 x1 x3 x4 x5 hE => ih hE
    rcases br_e hE with ⟨_, hE⟩ | ⟨_, hE⟩
    · exact moX5_nearest_62 hE
    · obtain ⟨r_2, er_2, hE⟩ := cl_e hE
      rcases br_e hE with ⟨_, hE⟩ | ⟨_, hE⟩
      · exact moX5_nearest_62 hE
      · obtain ⟨v_4, ev_4, hE⟩ := nm_e2 hE
        obtain ⟨r_5, er_5, hE⟩ := cl_e hE
        obtain ⟨g_6, hE⟩ := gd_e hE
        rcases br_e hE with ⟨_, hE⟩ | ⟨_, hE⟩
        · obtain ⟨v_8, ev_8, hE⟩ := nm_e2 hE
          exact mk_16 _ _ _ _ _ _ hE
        · exact le_some2 hE
set_option maxRecDepth 20000 in
theorem moX5_nearest {o : Int32 × Hp} {F : Nat} {h : Hp} {x0 : Nat} {x1 : Nat} {x2 : Int32} {x3 : Int32} (hE : sX5_nearest F h x0 x1 x2 x3 = some o) : Le h o.2 := by
  obtain ⟨r_1, er_1, hE⟩ := cl_e hE
  obtain ⟨r_2, er_2, hE⟩ := cl_e hE
  obtain ⟨g_3, hE⟩ := gd_e hE
  obtain ⟨v_4, ev_4, hE⟩ := nm_e2 hE
  exact moX5_nearest_16 _ hE
set_option maxRecDepth 20000 in
theorem bX5_nearest_62 {p : Program} {l : Launch} {e : Env} {s : State} {m : MethodId} {args : Array Value} {below : List Frame} {meth : Method} {c : Code} {X : Ec} {h0 : Hp} {o : Int32 × Hp} {F : Nat} (C : Cx X p s m args meth c RX5 cX5_nearest 6 (some .int) "nearest") {h : Hp} {H : Heap} {locs : List Loc} (hkm : Km h0 h) (hW : Wx X h H) (hZ : va_S (aA (eB X)) s.heap H locs) (ls : Array Slot) (hl : lv_has ls 6 []) (hE : sX5_nearest_62 F h  = some o) : W p l e (rm 0 0) s m args below meth c H locs 0 0 (MQ below (QI X h0 o.1 o.2) args s 0 0 (aA (eB X))) (F0 m 62 ls []) := by
  refine lv_iconst (v := (-1 : Int32)) C.1 C.2.1 dX5_nearest_62 (by decide) ?_
  exact x_iret C rfl rfl hW hZ hkm hE dX5_nearest_63
set_option maxRecDepth 20000 in
theorem bX5_nearest_16 {p : Program} {l : Launch} {e : Env} {s : State} {m : MethodId} {args : Array Value} {below : List Frame} {meth : Method} {c : Code} {X : Ec} {h0 : Hp} {o : Int32 × Hp} {F : Nat} (C : Cx X p s m args meth c RX5 cX5_nearest 6 (some .int) "nearest") : ∀ (f : Nat) {h : Hp} {x0 : Nat} {x1 : Nat} {x3 : Int32} {x4 : Int32} {x5 : Int32} {H : Heap} {locs : List Loc} (k_x0 : hK h x0 = 5) (k_x1 : hK h x1 = 3), Km h0 h → Wx X h H → va_S (aA (eB X)) s.heap H locs → ∀ (ls : Array Slot), lv_has ls 6 [(0, .ref x0), (1, .ref x1), (3, .int x3), (4, .int x4), (5, .int x5)] → sX5_nearest_16 F f h x0 x1 x3 x4 x5 = some o → W p l e (rm 0 0) s m args below meth c H locs 0 0 (MQ below (QI X h0 o.1 o.2) args s 0 0 (aA (eB X))) (F0 m 16 ls []) := by
  intro f
  induction f with
  | zero =>
    intro h x0 x1 x3 x4 x5 H locs k_x0 k_x1 hkm hW hZ ls hl hE
    rw [sX5_nearest_16] at hE
    cases hE
  | succ f ih =>
    intro h x0 x1 x3 x4 x5 H locs k_x0 k_x1 hkm hW hZ ls hl hE
    rw [sX5_nearest_16] at hE
    have hk_16 : ∀ (h : Hp) (x0 : Nat) (x1 : Nat) (x3 : Int32) (x4 : Int32) (x5 : Int32) (H : Heap) (locs : List Loc), hK h x0 = 5 → hK h x1 = 3 → Km h0 h → Wx X h H → va_S (aA (eB X)) s.heap H locs → ∀ (ls : Array Slot), lv_has ls 6 [(0, .ref x0), (1, .ref x1), (3, .int x3), (4, .int x4), (5, .int x5)] → sX5_nearest_16 F f h x0 x1 x3 x4 x5 = some o → W p l e (rm 0 0) s m args below meth c H locs 0 0 (MQ below (QI X h0 o.1 o.2) args s 0 0 (aA (eB X))) (F0 m 16 ls []) := fun h x0 x1 x3 x4 x5 H locs k_x0 k_x1 a b c ls hl hE => ih k_x0 k_x1 a b c ls hl hE
    refine lv_iload C.1 C.2.1 dX5_nearest_16 (lv_at hl 4 rfl) ?_
    refine lv_if_lt (tgt := 62) C.1 C.2.1 dX5_nearest_18 (by decide) (fun c_1 => ?_) (fun c_1 => ?_)
    · have hE := br_p hE c_1
      exact bX5_nearest_62 C hkm hW hZ _ (lv_sub hl [] rfl) hE
    · have hE := br_n hE c_1
      refine lv_iload C.1 C.2.1 dX5_nearest_21 (lv_at hl 4 rfl) ?_
      refine lv_aload_n C.1 C.2.1 dX5_nearest_23 rfl (lv_at hl 0 rfl) ?_
      obtain ⟨r_2, er_2, hE⟩ := cl_e hE
      refine gf_X5_22 C hW k_x0 er_2 dX5_nearest_24 (fun k_r_2 => ?_)
      refine gf_X5_242 C hW k_r_2 dX5_nearest_27 ?_
      refine lv_icmp_ge (tgt := 62) C.1 C.2.1 dX5_nearest_30 (by decide) (fun c_3 => ?_) (fun c_3 => ?_)
      · have hE := br_p hE c_3
        exact bX5_nearest_62 C hkm hW hZ _ (lv_sub hl [] rfl) hE
      · have hE := br_n hE c_3
        refine lv_iload C.1 C.2.1 dX5_nearest_33 (lv_at hl 3 rfl) ?_
        refine lv_iload_n C.1 C.2.1 dX5_nearest_35 rfl (lv_at hl 2 rfl) ?_
        refine lv_iadd C.1 C.2.1 dX5_nearest_36 ?_
        obtain ⟨v_4, ev_4, hE⟩ := nm_e2 hE
        refine x_nmI ev_4 ?_
        refine lv_istore (lv' := [(4, .int v_4), (0, .ref x0), (1, .ref x1), (3, .int x3), (5, .int x5)]) C.1 C.2.1 dX5_nearest_37 hl (by decide) rfl (fun ls hl => ?_)
        refine lv_aload_n C.1 C.2.1 dX5_nearest_39 rfl (lv_at hl 2 rfl) ?_
        obtain ⟨r_5, er_5, hE⟩ := cl_e hE
        refine gf_X5_42 C hW k_x1 er_5 dX5_nearest_40 (fun k_r_5 => ?_)
        refine lv_iload C.1 C.2.1 dX5_nearest_43 (lv_at hl 0 rfl) ?_
        obtain ⟨g_6, hE⟩ := gd_e hE
        refine y_bald C hW k_r_5 g_6 dX5_nearest_45 ?_
        refine lv_iconst (v := (-1 : Int32)) C.1 C.2.1 dX5_nearest_46 (by decide) ?_
        refine lv_icmp_eq (tgt := 53) C.1 C.2.1 dX5_nearest_47 (by decide) (fun c_7 => ?_) (fun c_7 => ?_)
        · have hE := br_p hE c_7
          refine lv_iload C.1 C.2.1 dX5_nearest_53 (lv_at hl 4 rfl) ?_
          refine lv_iload_n C.1 C.2.1 dX5_nearest_55 rfl (lv_at hl 3 rfl) ?_
          refine lv_iadd C.1 C.2.1 dX5_nearest_56 ?_
          obtain ⟨v_8, ev_8, hE⟩ := nm_e2 hE
          refine x_nmI ev_8 ?_
          refine lv_istore (lv' := [(5, .int v_8), (4, .int v_4), (0, .ref x0), (1, .ref x1), (3, .int x3)]) C.1 C.2.1 dX5_nearest_57 hl (by decide) rfl (fun ls hl => ?_)
          refine lv_goto (tgt := 16) C.1 C.2.1 dX5_nearest_59 (by decide) ?_
          exact hk_16 _ _ _ _ _ _ _ _ k_x0 k_x1 hkm hW hZ _ (lv_sub hl [2, 3, 4, 1, 0] rfl) hE
        · have hE := br_n hE c_7
          refine lv_iload C.1 C.2.1 dX5_nearest_50 (lv_at hl 0 rfl) ?_
          exact x_iret C rfl rfl hW hZ hkm hE dX5_nearest_52
set_option maxRecDepth 20000 in
theorem ct_X5_nearest (l : Launch) (X : Ec) (F : Nat) {h : Hp} {x0 : Nat} {x1 : Nat} {x2 : Int32} {x3 : Int32} {o : Int32 × Hp} (k_x0 : hK h x0 = 5) (k_x1 : hK h x1 = 3) (hE : sX5_nearest F h x0 x1 x2 x3 = some o) : MetI l yX5_nearest cX5_nearest 6 (some .int) 0 0 X [.ref x0, .ref x1, .int x2, .int x3] h o := by
  refine x_met (by decide) (Nat.le_of_ble_eq_true rfl) ?_
  intro p e s m below meth c ls C hl hW hZ
  have hl : lv_has ls 6 [(0, .ref x0), (1, .ref x1), (2, .int x2), (3, .int x3)] := hl
  have hkm : Km h h := Km.rf h
  refine lv_iload_n C.1 C.2.1 dX5_nearest_0 rfl (lv_at hl 2 rfl) ?_
  refine lv_istore (lv' := [(4, .int x2), (0, .ref x0), (1, .ref x1), (2, .int x2), (3, .int x3)]) C.1 C.2.1 dX5_nearest_1 hl (by decide) rfl (fun ls hl => ?_)
  refine lv_aload_n C.1 C.2.1 dX5_nearest_3 rfl (lv_at hl 1 rfl) ?_
  obtain ⟨r_1, er_1, hE⟩ := cl_e hE
  refine gf_X5_22 C hW k_x0 er_1 dX5_nearest_4 (fun k_r_1 => ?_)
  obtain ⟨r_2, er_2, hE⟩ := cl_e hE
  refine gf_X5_239 C hW k_r_1 er_2 dX5_nearest_7 (fun k_r_2 => ?_)
  refine lv_iload_n C.1 C.2.1 dX5_nearest_10 rfl (lv_at hl 3 rfl) ?_
  obtain ⟨g_3, hE⟩ := gd_e hE
  refine y_iald C hW k_r_2 g_3 dX5_nearest_11 ?_
  refine lv_iload_n C.1 C.2.1 dX5_nearest_12 rfl (lv_at hl 4 rfl) ?_
  refine lv_iadd C.1 C.2.1 dX5_nearest_13 ?_
  obtain ⟨v_4, ev_4, hE⟩ := nm_e2 hE
  refine x_nmI ev_4 ?_
  refine lv_istore (lv' := [(5, .int v_4), (4, .int x2), (0, .ref x0), (1, .ref x1), (2, .int x2), (3, .int x3)]) C.1 C.2.1 dX5_nearest_14 hl (by decide) rfl (fun ls hl => ?_)
  exact bX5_nearest_16 C F k_x0 k_x1 hkm hW hZ _ (lv_sub hl [2, 3, 5, 1, 0] rfl) hE
