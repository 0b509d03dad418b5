set_option maxRecDepth 100000 in
theorem ms_77 : Cond.selects RX8 yX8_writeLeft yX8_writeLeft ∈ W0 := w0_in (List.mem_append_left _ (List.mem_of_getElem? (i := 77) rfl)) rfl
set_option maxRecDepth 100000 in
theorem m_587 : Cond.instanceMethod yX9_appendAll ∈ W0 := w0_in (List.mem_append_right _ (List.mem_of_getElem? (i := 587) rfl)) rfl
set_option maxRecDepth 100000 in
theorem m_588 : Cond.selects RX9 yX9_appendAll yX9_appendAll ∈ W0 := w0_in (List.mem_append_right _ (List.mem_of_getElem? (i := 588) rfl)) rfl
set_option maxRecDepth 100000 in
theorem m_589 : Cond.code yX9_appendAll cX9_appendAll 3 none ∈ W0 := w0_in (List.mem_append_right _ (List.mem_of_getElem? (i := 589) rfl)) rfl
set_option maxRecDepth 100000 in
theorem m_1417 : Cond.methodLink RX8 51 yX9_appendAll ∈ W0 := w0_in (List.mem_append_right _ (List.mem_of_getElem? (i := 1417) rfl)) rfl
set_option maxRecDepth 100000 in
theorem m_1419 : Cond.methodLink RX8 58 yX1_letterOf ∈ W0 := w0_in (List.mem_append_right _ (List.mem_of_getElem? (i := 1419) rfl)) rfl
set_option maxRecDepth 100000 in
theorem m_1421 : Cond.methodLink RX8 70 yX8_writeLeft ∈ W0 := w0_in (List.mem_append_right _ (List.mem_of_getElem? (i := 1421) rfl)) rfl
set_option maxRecDepth 100000 in
theorem m_1423 : Cond.instanceMethod yX8_writeLeft ∈ W0 := w0_in (List.mem_append_right _ (List.mem_of_getElem? (i := 1423) rfl)) rfl
set_option maxRecDepth 100000 in
theorem m_1424 : Cond.code yX8_writeLeft cX8_writeLeft 12 none ∈ W0 := w0_in (List.mem_append_right _ (List.mem_of_getElem? (i := 1424) rfl)) rfl
set_option maxRecDepth 100000 in
theorem m_1429 : Cond.methodLink RX8 77 yX7_writeSquare ∈ W0 := w0_in (List.mem_append_right _ (List.mem_of_getElem? (i := 1429) rfl)) rfl
set_option maxRecDepth 100000 in
theorem m_1430 : Cond.methodLink RX8 83 yX5_becomes ∈ W0 := w0_in (List.mem_append_right _ (List.mem_of_getElem? (i := 1430) rfl)) rfl
theorem cw_X8_77 : cwd RX8 77 yX7_writeSquare cX7_writeSquare 3 none true 3 := ⟨m_1111, m_1429, m_10, m_1110, by decide, by decide, by decide +kernel⟩
theorem cw_X8_83 : cwd RX8 83 yX5_becomes cX5_becomes 2 (some .int) true 1 := ⟨m_1243, m_1430, m_7, m_1242, by decide, by decide, by decide +kernel⟩
theorem cw_X8_58 : cwd RX8 58 yX1_letterOf cX1_letterOf 3 (some .int) false 1 := ⟨m_1104, m_1419, m_4, ⟨m_1102, m_1103⟩, by decide, by decide, by decide +kernel⟩
theorem cw_X8_70 : cwd RX8 70 yX8_writeLeft cX8_writeLeft 12 none false 4 := ⟨m_1424, m_1421, m_11, ⟨m_1423, ms_77⟩, by decide, by decide, by decide +kernel⟩
theorem cw_X8_51 : cwd RX8 51 yX9_appendAll cX9_appendAll 3 none false 1 := ⟨m_589, m_1417, m_2, ⟨m_587, m_588⟩, by decide, by decide, by decide +kernel⟩
theorem dX8_writeMove_0 : decode cX8_writeMove 0 = .ok (.aload_n 1, 1) := by decide +kernel
theorem dX8_writeMove_1 : decode cX8_writeMove 1 = .ok (.iload_n 3, 1) := by decide +kernel
theorem dX8_writeMove_2 : decode cX8_writeMove 2 = .ok (.iaload, 1) := by decide +kernel
theorem dX8_writeMove_3 : decode cX8_writeMove 3 = .ok (.istore 5, 2) := by decide +kernel
theorem dX8_writeMove_5 : decode cX8_writeMove 5 = .ok (.iload 5, 2) := by decide +kernel
theorem dX8_writeMove_7 : decode cX8_writeMove 7 = .ok (.invokestatic 35, 3) := by decide +kernel
theorem dX8_writeMove_10 : decode cX8_writeMove 10 = .ok (.istore 6, 2) := by decide +kernel
theorem dX8_writeMove_12 : decode cX8_writeMove 12 = .ok (.iload 5, 2) := by decide +kernel
theorem dX8_writeMove_14 : decode cX8_writeMove 14 = .ok (.invokestatic 41, 3) := by decide +kernel
theorem dX8_writeMove_17 : decode cX8_writeMove 17 = .ok (.istore 7, 2) := by decide +kernel
theorem dX8_writeMove_19 : decode cX8_writeMove 19 = .ok (.iload 7, 2) := by decide +kernel
theorem dX8_writeMove_21 : decode cX8_writeMove 21 = .ok (.iconst 2, 1) := by decide +kernel
theorem dX8_writeMove_22 : decode cX8_writeMove 22 = .ok (.if_icmp .ne 26, 3) := by decide +kernel
theorem dX8_writeMove_25 : decode cX8_writeMove 25 = .ok (.aload 4, 2) := by decide +kernel
theorem dX8_writeMove_27 : decode cX8_writeMove 27 = .ok (.iload 6, 2) := by decide +kernel
theorem dX8_writeMove_29 : decode cX8_writeMove 29 = .ok (.iload 5, 2) := by decide +kernel
theorem dX8_writeMove_31 : decode cX8_writeMove 31 = .ok (.invokestatic 44, 3) := by decide +kernel
theorem dX8_writeMove_34 : decode cX8_writeMove 34 = .ok (.if_icmp .le 8, 3) := by decide +kernel
theorem dX8_writeMove_37 : decode cX8_writeMove 37 = .ok (.ldc 47, 2) := by decide +kernel
theorem dX8_writeMove_39 : decode cX8_writeMove 39 = .ok (.goto 5, 3) := by decide +kernel
theorem dX8_writeMove_42 : decode cX8_writeMove 42 = .ok (.ldc 49, 2) := by decide +kernel
theorem dX8_writeMove_44 : decode cX8_writeMove 44 = .ok (.invokevirtual 51, 3) := by decide +kernel
theorem dX8_writeMove_47 : decode cX8_writeMove 47 = .ok (.return_, 1) := by decide +kernel
theorem dX8_writeMove_48 : decode cX8_writeMove 48 = .ok (.iload 5, 2) := by decide +kernel
theorem dX8_writeMove_50 : decode cX8_writeMove 50 = .ok (.invokestatic 55, 3) := by decide +kernel
theorem dX8_writeMove_53 : decode cX8_writeMove 53 = .ok (.istore 8, 2) := by decide +kernel
theorem dX8_writeMove_55 : decode cX8_writeMove 55 = .ok (.iload 7, 2) := by decide +kernel
theorem dX8_writeMove_57 : decode cX8_writeMove 57 = .ok (.iconst 3, 1) := by decide +kernel
theorem dX8_writeMove_58 : decode cX8_writeMove 58 = .ok (.if_icmp .ne 29, 3) := by decide +kernel
theorem dX8_writeMove_61 : decode cX8_writeMove 61 = .ok (.aload 4, 2) := by decide +kernel
theorem dX8_writeMove_63 : decode cX8_writeMove 63 = .ok (.aload_n 0, 1) := by decide +kernel
theorem dX8_writeMove_64 : decode cX8_writeMove 64 = .ok (.getfield 27, 3) := by decide +kernel
theorem dX8_writeMove_67 : decode cX8_writeMove 67 = .ok (.iconst 2, 1) := by decide +kernel
theorem dX8_writeMove_68 : decode cX8_writeMove 68 = .ok (.iload 8, 2) := by decide +kernel
theorem dX8_writeMove_70 : decode cX8_writeMove 70 = .ok (.imul, 1) := by decide +kernel
theorem dX8_writeMove_71 : decode cX8_writeMove 71 = .ok (.invokevirtual 58, 3) := by decide +kernel
theorem dX8_writeMove_74 : decode cX8_writeMove 74 = .ok (.invokevirtual 63, 3) := by decide +kernel
theorem dX8_writeMove_77 : decode cX8_writeMove 77 = .ok (.aload 4, 2) := by decide +kernel
theorem dX8_writeMove_79 : decode cX8_writeMove 79 = .ok (.bipush 64, 2) := by decide +kernel
theorem dX8_writeMove_81 : decode cX8_writeMove 81 = .ok (.invokevirtual 63, 3) := by decide +kernel
theorem dX8_writeMove_84 : decode cX8_writeMove 84 = .ok (.goto 41, 3) := by decide +kernel
theorem dX8_writeMove_87 : decode cX8_writeMove 87 = .ok (.iload 8, 2) := by decide +kernel
theorem dX8_writeMove_89 : decode cX8_writeMove 89 = .ok (.aload_n 0, 1) := by decide +kernel
theorem dX8_writeMove_90 : decode cX8_writeMove 90 = .ok (.getfield 27, 3) := by decide +kernel
theorem dX8_writeMove_93 : decode cX8_writeMove 93 = .ok (.getfield 66, 3) := by decide +kernel
theorem dX8_writeMove_96 : decode cX8_writeMove 96 = .ok (.if_icmp .eq 19, 3) := by decide +kernel
theorem dX8_writeMove_99 : decode cX8_writeMove 99 = .ok (.aload 4, 2) := by decide +kernel
theorem dX8_writeMove_101 : decode cX8_writeMove 101 = .ok (.aload_n 0, 1) := by decide +kernel
theorem dX8_writeMove_102 : decode cX8_writeMove 102 = .ok (.getfield 27, 3) := by decide +kernel
theorem dX8_writeMove_105 : decode cX8_writeMove 105 = .ok (.iconst 2, 1) := by decide +kernel
theorem dX8_writeMove_106 : decode cX8_writeMove 106 = .ok (.iload 8, 2) := by decide +kernel
theorem dX8_writeMove_108 : decode cX8_writeMove 108 = .ok (.imul, 1) := by decide +kernel
theorem dX8_writeMove_109 : decode cX8_writeMove 109 = .ok (.invokevirtual 58, 3) := by decide +kernel
theorem dX8_writeMove_112 : decode cX8_writeMove 112 = .ok (.invokevirtual 63, 3) := by decide +kernel
theorem dX8_writeMove_115 : decode cX8_writeMove 115 = .ok (.aload_n 0, 1) := by decide +kernel
theorem dX8_writeMove_116 : decode cX8_writeMove 116 = .ok (.aload_n 1, 1) := by decide +kernel
theorem dX8_writeMove_117 : decode cX8_writeMove 117 = .ok (.iload_n 2, 1) := by decide +kernel
theorem dX8_writeMove_118 : decode cX8_writeMove 118 = .ok (.iload 5, 2) := by decide +kernel
theorem dX8_writeMove_120 : decode cX8_writeMove 120 = .ok (.aload 4, 2) := by decide +kernel
theorem dX8_writeMove_122 : decode cX8_writeMove 122 = .ok (.invokevirtual 70, 3) := by decide +kernel
theorem dX8_writeMove_125 : decode cX8_writeMove 125 = .ok (.iload 5, 2) := by decide +kernel
theorem dX8_writeMove_127 : decode cX8_writeMove 127 = .ok (.invokestatic 74, 3) := by decide +kernel
theorem dX8_writeMove_130 : decode cX8_writeMove 130 = .ok (.iconst (-1), 1) := by decide +kernel
theorem dX8_writeMove_131 : decode cX8_writeMove 131 = .ok (.if_icmp .eq 10, 3) := by decide +kernel
theorem dX8_writeMove_134 : decode cX8_writeMove 134 = .ok (.aload 4, 2) := by decide +kernel
theorem dX8_writeMove_136 : decode cX8_writeMove 136 = .ok (.bipush 120, 2) := by decide +kernel
theorem dX8_writeMove_138 : decode cX8_writeMove 138 = .ok (.invokevirtual 63, 3) := by decide +kernel
theorem dX8_writeMove_141 : decode cX8_writeMove 141 = .ok (.aload_n 0, 1) := by decide +kernel
theorem dX8_writeMove_142 : decode cX8_writeMove 142 = .ok (.getfield 27, 3) := by decide +kernel
theorem dX8_writeMove_145 : decode cX8_writeMove 145 = .ok (.iload 6, 2) := by decide +kernel
theorem dX8_writeMove_147 : decode cX8_writeMove 147 = .ok (.aload 4, 2) := by decide +kernel
theorem dX8_writeMove_149 : decode cX8_writeMove 149 = .ok (.invokestatic 77, 3) := by decide +kernel
theorem dX8_writeMove_152 : decode cX8_writeMove 152 = .ok (.iload 5, 2) := by decide +kernel
theorem dX8_writeMove_154 : decode cX8_writeMove 154 = .ok (.invokestatic 83, 3) := by decide +kernel
theorem dX8_writeMove_157 : decode cX8_writeMove 157 = .ok (.iconst (-1), 1) := by decide +kernel
theorem dX8_writeMove_158 : decode cX8_writeMove 158 = .ok (.if_icmp .eq 29, 3) := by decide +kernel
theorem dX8_writeMove_161 : decode cX8_writeMove 161 = .ok (.aload 4, 2) := by decide +kernel
theorem dX8_writeMove_163 : decode cX8_writeMove 163 = .ok (.bipush 61, 2) := by decide +kernel
theorem dX8_writeMove_165 : decode cX8_writeMove 165 = .ok (.invokevirtual 63, 3) := by decide +kernel
theorem dX8_writeMove_168 : decode cX8_writeMove 168 = .ok (.aload 4, 2) := by decide +kernel
theorem dX8_writeMove_170 : decode cX8_writeMove 170 = .ok (.aload_n 0, 1) := by decide +kernel
theorem dX8_writeMove_171 : decode cX8_writeMove 171 = .ok (.getfield 27, 3) := by decide +kernel
theorem dX8_writeMove_174 : decode cX8_writeMove 174 = .ok (.iconst 2, 1) := by decide +kernel
theorem dX8_writeMove_175 : decode cX8_writeMove 175 = .ok (.iload 5, 2) := by decide +kernel
theorem dX8_writeMove_177 : decode cX8_writeMove 177 = .ok (.invokestatic 83, 3) := by decide +kernel
theorem dX8_writeMove_180 : decode cX8_writeMove 180 = .ok (.imul, 1) := by decide +kernel
theorem dX8_writeMove_181 : decode cX8_writeMove 181 = .ok (.invokevirtual 58, 3) := by decide +kernel
theorem dX8_writeMove_184 : decode cX8_writeMove 184 = .ok (.invokevirtual 63, 3) := by decide +kernel
theorem dX8_writeMove_187 : decode cX8_writeMove 187 = .ok (.return_, 1) := by decide +kernel
set_option maxRecDepth 20000 in
theorem moX8_writeMove_187 {o : Hp} {F : Nat} {h : Hp} (hE : sX8_writeMove_187 F h  = some o) : Le h o := by
  exact le_some1 hE
set_option maxRecDepth 20000 in
theorem moX8_writeMove_141 {o : Hp} {F : Nat} {h : Hp} {x0 : Nat} {x4 : Nat} {x5 : Int32} {x6 : Int32} (hE : sX8_writeMove_141 F h x0 x4 x5 x6 = some o) : Le h o := by
  obtain ⟨r_1, er_1, hE⟩ := cl_e hE
  obtain ⟨o_2, eo_2, hE⟩ := cl_e hE
  refine (moX7_writeSquare eo_2).tr ?_
  obtain ⟨o_3, eo_3, hE⟩ := cl_e hE
  refine (moX5_becomes eo_3).tr ?_
  rcases br_e hE with ⟨_, hE⟩ | ⟨_, hE⟩
  · exact moX8_writeMove_187 hE
  · obtain ⟨o_5, eo_5, hE⟩ := cl_e hE
    refine (moX9_append eo_5).tr ?_
    obtain ⟨r_6, er_6, hE⟩ := cl_e hE
    obtain ⟨o_7, eo_7, hE⟩ := cl_e hE
    refine (moX5_becomes eo_7).tr ?_
    obtain ⟨o_8, eo_8, hE⟩ := cl_e hE
    refine (moX1_letterOf eo_8).tr ?_
    obtain ⟨o_9, eo_9, hE⟩ := cl_e hE
    refine (moX9_append eo_9).tr ?_
    exact moX8_writeMove_187 hE
set_option maxRecDepth 20000 in
theorem moX8_writeMove_125 {o : Hp} {F : Nat} {h : Hp} {x0 : Nat} {x4 : Nat} {x5 : Int32} {x6 : Int32} (hE : sX8_writeMove_125 F h x0 x4 x5 x6 = some o) : Le h o := by
  obtain ⟨o_1, eo_1, hE⟩ := cl_e hE
  refine (moX5_takenBy eo_1).tr ?_
  rcases br_e hE with ⟨_, hE⟩ | ⟨_, hE⟩
  · exact moX8_writeMove_141 hE
  · obtain ⟨o_3, eo_3, hE⟩ := cl_e hE
    refine (moX9_append eo_3).tr ?_
    exact moX8_writeMove_141 hE
set_option maxRecDepth 20000 in
theorem moX8_writeMove_115 {o : Hp} {F : Nat} {h : Hp} {x0 : Nat} {x1 : Nat} {x2 : Int32} {x4 : Nat} {x5 : Int32} {x6 : Int32} (hE : sX8_writeMove_115 F h x0 x1 x2 x4 x5 x6 = some o) : Le h o := by
  obtain ⟨o_1, eo_1, hE⟩ := cl_e hE
  refine (moX8_writeLeft eo_1).tr ?_
  exact moX8_writeMove_125 hE
set_option maxRecDepth 20000 in
theorem moX8_writeMove_44 {o : Hp} {F : Nat} {h : Hp} {t0 : Nat} {t1 : Nat} (hE : sX8_writeMove_44 F h  t0 t1 = some o) : Le h o := by
  obtain ⟨o_1, eo_1, hE⟩ := cl_e hE
  refine (moX9_appendAll eo_1).tr ?_
  exact le_some1 hE
set_option maxRecDepth 20000 in
theorem moX8_writeMove {o : Hp} {F : Nat} {h : Hp} {x0 : Nat} {x1 : Nat} {x2 : Int32} {x3 : Int32} {x4 : Nat} (hE : sX8_writeMove F h x0 x1 x2 x3 x4 = some o) : Le h o := by
  obtain ⟨g_1, hE⟩ := gd_e hE
  obtain ⟨v_2, ev_2, hE⟩ := nm_e2 hE
  obtain ⟨o_3, eo_3, hE⟩ := cl_e hE
  refine (moX5_comeTo eo_3).tr ?_
  obtain ⟨o_4, eo_4, hE⟩ := cl_e hE
  refine (moX5_kindOf eo_4).tr ?_
  rcases br_e hE with ⟨_, hE⟩ | ⟨_, hE⟩
  · obtain ⟨o_17, eo_17, hE⟩ := cl_e hE
    refine (moX5_leftBy eo_17).tr ?_
    rcases br_e hE with ⟨_, hE⟩ | ⟨_, hE⟩
    · exact moX8_writeMove_44 hE
    · exact moX8_writeMove_44 hE
  · obtain ⟨o_6, eo_6, hE⟩ := cl_e hE
    refine (moX5_manOf eo_6).tr ?_
    rcases br_e hE with ⟨_, hE⟩ | ⟨_, hE⟩
    · obtain ⟨r_13, er_13, hE⟩ := cl_e hE
      obtain ⟨o_14, eo_14, hE⟩ := cl_e hE
      refine (moX1_letterOf eo_14).tr ?_
      obtain ⟨o_15, eo_15, hE⟩ := cl_e hE
      refine (moX9_append eo_15).tr ?_
      obtain ⟨o_16, eo_16, hE⟩ := cl_e hE
      refine (moX9_append eo_16).tr ?_
      exact moX8_writeMove_125 hE
    · obtain ⟨r_8, er_8, hE⟩ := cl_e hE
      rcases br_e hE with ⟨_, hE⟩ | ⟨_, hE⟩
      · exact moX8_writeMove_115 hE
      · obtain ⟨r_10, er_10, hE⟩ := cl_e hE
        obtain ⟨o_11, eo_11, hE⟩ := cl_e hE
        refine (moX1_letterOf eo_11).tr ?_
        obtain ⟨o_12, eo_12, hE⟩ := cl_e hE
        refine (moX9_append eo_12).tr ?_
        exact moX8_writeMove_115 hE
set_option maxRecDepth 20000 in
theorem bX8_writeMove_187 {p : Program} {l : Launch} {e : Env} {s : State} {m : MethodId} {args : Array Value} {below : List Frame} {meth : Method} {c : Code} {X : Ec} {h0 : Hp} {o : Hp} {F : Nat} (C : Cx X p s m args meth c RX8 cX8_writeMove 9 none "writeMove") {h : Hp} {H : Heap} {locs : List Loc} (hkm : Km h0 h) (hW : Wx X h H) (hZ : va_S (aA (eB X)) s.heap H locs) (ls : Array Slot) (hl : lv_has ls 9 []) (hE : sX8_writeMove_187 F h  = some o) : W p l e (rm 5 107) s m args below meth c H locs 0 0 (MQ below (QV X h0 o) args s 0 0 (aA (eB X))) (F0 m 187 ls []) := by
  exact x_vret C rfl hW hZ hkm hE dX8_writeMove_187
set_option maxRecDepth 20000 in
theorem bX8_writeMove_141 {p : Program} {l : Launch} {e : Env} {s : State} {m : MethodId} {args : Array Value} {below : List Frame} {meth : Method} {c : Code} {X : Ec} {h0 : Hp} {o : Hp} {F : Nat} (C : Cx X p s m args meth c RX8 cX8_writeMove 9 none "writeMove") {h : Hp} {x0 : Nat} {x4 : Nat} {x5 : Int32} {x6 : Int32} {H : Heap} {locs : List Loc} (k_x0 : hK h x0 = 8) (k_x4 : hK h x4 = 9) (hkm : Km h0 h) (hW : Wx X h H) (hZ : va_S (aA (eB X)) s.heap H locs) (ls : Array Slot) (hl : lv_has ls 9 [(0, .ref x0), (4, .ref x4), (5, .int x5), (6, .int x6)]) (hE : sX8_writeMove_141 F h x0 x4 x5 x6 = some o) : W p l e (rm 5 107) s m args below meth c H locs 0 0 (MQ below (QV X h0 o) args s 0 0 (aA (eB X))) (F0 m 141 ls []) := by
  refine lv_aload_n C.1 C.2.1 dX8_writeMove_141 rfl (lv_at hl 0 rfl) ?_
  obtain ⟨r_1, er_1, hE⟩ := cl_e hE
  refine gf_X8_27 C hW k_x0 er_1 dX8_writeMove_142 (fun k_r_1 => ?_)
  refine lv_iload C.1 C.2.1 dX8_writeMove_145 (lv_at hl 3 rfl) ?_
  refine lv_aload C.1 C.2.1 dX8_writeMove_147 (lv_at hl 1 rfl) ?_
  obtain ⟨o_2, eo_2, hE⟩ := cl_e hE
  refine x_kV (o := o_2) (z_runS (As := [.ref r_1, .int x6, .ref x4]) (rest := []) C (ct_X7_writeSquare l X k_r_1 k_x4 eo_2) cw_X8_77 hW hZ rfl hl.1 (Nat.le_of_ble_eq_true rfl) rfl dX8_writeMove_149 ⟨Nat.le_of_ble_eq_true rfl, Nat.le_of_ble_eq_true rfl⟩ ⟨Nat.le_refl _, Nat.le_refl _⟩) hZ (fun _ _ hW km hZ => ?_)
  replace hkm := hkm.tr km
  replace k_x0 := km.at k_x0 (by decide)
  replace k_x4 := km.at k_x4 (by decide)
  refine lv_iload C.1 C.2.1 dX8_writeMove_152 (lv_at hl 2 rfl) ?_
  obtain ⟨o_3, eo_3, hE⟩ := cl_e hE
  refine x_kI (o := o_3) (z_runS (As := [.int x5]) (rest := []) C (ct_X5_becomes l X eo_3) cw_X8_83 hW hZ rfl hl.1 (Nat.le_of_ble_eq_true rfl) rfl dX8_writeMove_154 ⟨Nat.le_of_ble_eq_true rfl, Nat.le_of_ble_eq_true rfl⟩ ⟨Nat.le_refl _, Nat.le_refl _⟩) hZ (fun _ _ hW km hZ => ?_)
  replace hkm := hkm.tr km
  replace k_x0 := km.at k_x0 (by decide)
  replace k_x4 := km.at k_x4 (by decide)
  refine lv_iconst (v := (-1 : Int32)) C.1 C.2.1 dX8_writeMove_157 (by decide) ?_
  refine lv_icmp_eq (tgt := 187) C.1 C.2.1 dX8_writeMove_158 (by decide) (fun c_4 => ?_) (fun c_4 => ?_)
  · have hE := br_p hE c_4
    exact bX8_writeMove_187 C hkm hW hZ _ (lv_sub hl [] rfl) hE
  · have hE := br_n hE c_4
    refine lv_aload C.1 C.2.1 dX8_writeMove_161 (lv_at hl 1 rfl) ?_
    refine lv_bipush (v := (61 : Int32)) C.1 C.2.1 dX8_writeMove_163 (by decide) ?_
    obtain ⟨o_5, eo_5, hE⟩ := cl_e hE
    refine x_kV (o := o_5) (z_runV (As := [.int (61 : Int32)]) (rest := []) C (ct_X9_append l X k_x4 eo_5) cw_X8_63 hW hZ k_x4 (by decide) rfl rfl rfl hl.1 (Nat.le_of_ble_eq_true rfl) rfl dX8_writeMove_165 ⟨Nat.le_of_ble_eq_true rfl, Nat.le_of_ble_eq_true rfl⟩ ⟨Nat.le_refl _, Nat.le_refl _⟩) hZ (fun _ _ hW km hZ => ?_)
    replace hkm := hkm.tr km
    replace k_x0 := km.at k_x0 (by decide)
    replace k_x4 := km.at k_x4 (by decide)
    refine lv_aload C.1 C.2.1 dX8_writeMove_168 (lv_at hl 1 rfl) ?_
    refine lv_aload_n C.1 C.2.1 dX8_writeMove_170 rfl (lv_at hl 0 rfl) ?_
    obtain ⟨r_6, er_6, hE⟩ := cl_e hE
    refine gf_X8_27 C hW k_x0 er_6 dX8_writeMove_171 (fun k_r_6 => ?_)
    refine lv_iconst (v := (2 : Int32)) C.1 C.2.1 dX8_writeMove_174 (by decide) ?_
    refine lv_iload C.1 C.2.1 dX8_writeMove_175 (lv_at hl 2 rfl) ?_
    obtain ⟨o_7, eo_7, hE⟩ := cl_e hE
    refine x_kI (o := o_7) (z_runS (As := [.int x5]) (rest := [.int (2 : Int32), .ref r_6, .ref x4]) C (ct_X5_becomes l X eo_7) cw_X8_83 hW hZ rfl hl.1 (Nat.le_of_ble_eq_true rfl) rfl dX8_writeMove_177 ⟨Nat.le_of_ble_eq_true rfl, Nat.le_of_ble_eq_true rfl⟩ ⟨Nat.le_refl _, Nat.le_refl _⟩) hZ (fun _ _ hW km hZ => ?_)
    replace hkm := hkm.tr km
    replace k_x0 := km.at k_x0 (by decide)
    replace k_x4 := km.at k_x4 (by decide)
    replace k_r_6 := km.at k_r_6 (by decide)
    refine lv_imul C.1 C.2.1 dX8_writeMove_180 ?_
    obtain ⟨o_8, eo_8, hE⟩ := cl_e hE
    refine x_kI (o := o_8) (z_runV (As := [.int ((2 : Int32) * o_7.1)]) (rest := [.ref x4]) C (ct_X1_letterOf l X k_r_6 eo_8) cw_X8_58 hW hZ k_r_6 (by decide) rfl rfl rfl hl.1 (Nat.le_of_ble_eq_true rfl) rfl dX8_writeMove_181 ⟨Nat.le_of_ble_eq_true rfl, Nat.le_of_ble_eq_true rfl⟩ ⟨Nat.le_refl _, Nat.le_refl _⟩) hZ (fun _ _ hW km hZ => ?_)
    replace hkm := hkm.tr km
    replace k_x0 := km.at k_x0 (by decide)
    replace k_x4 := km.at k_x4 (by decide)
    obtain ⟨o_9, eo_9, hE⟩ := cl_e hE
    refine x_kV (o := o_9) (z_runV (As := [.int o_8.1]) (rest := []) C (ct_X9_append l X k_x4 eo_9) cw_X8_63 hW hZ k_x4 (by decide) rfl rfl rfl hl.1 (Nat.le_of_ble_eq_true rfl) rfl dX8_writeMove_184 ⟨Nat.le_of_ble_eq_true rfl, Nat.le_of_ble_eq_true rfl⟩ ⟨Nat.le_refl _, Nat.le_refl _⟩) hZ (fun _ _ hW km hZ => ?_)
    replace hkm := hkm.tr km
    replace k_x0 := km.at k_x0 (by decide)
    replace k_x4 := km.at k_x4 (by decide)
    exact bX8_writeMove_187 C hkm hW hZ _ (lv_sub hl [] rfl) hE
set_option maxRecDepth 20000 in
theorem bX8_writeMove_125 {p : Program} {l : Launch} {e : Env} {s : State} {m : MethodId} {args : Array Value} {below : List Frame} {meth : Method} {c : Code} {X : Ec} {h0 : Hp} {o : Hp} {F : Nat} (C : Cx X p s m args meth c RX8 cX8_writeMove 9 none "writeMove") {h : Hp} {x0 : Nat} {x4 : Nat} {x5 : Int32} {x6 : Int32} {H : Heap} {locs : List Loc} (k_x0 : hK h x0 = 8) (k_x4 : hK h x4 = 9) (hkm : Km h0 h) (hW : Wx X h H) (hZ : va_S (aA (eB X)) s.heap H locs) (ls : Array Slot) (hl : lv_has ls 9 [(0, .ref x0), (4, .ref x4), (5, .int x5), (6, .int x6)]) (hE : sX8_writeMove_125 F h x0 x4 x5 x6 = some o) : W p l e (rm 5 107) s m args below meth c H locs 0 0 (MQ below (QV X h0 o) args s 0 0 (aA (eB X))) (F0 m 125 ls []) := by
  refine lv_iload C.1 C.2.1 dX8_writeMove_125 (lv_at hl 2 rfl) ?_
  obtain ⟨o_1, eo_1, hE⟩ := cl_e hE
  refine x_kI (o := o_1) (z_runS (As := [.int x5]) (rest := []) C (ct_X5_takenBy l X eo_1) cw_X8_74 hW hZ rfl hl.1 (Nat.le_of_ble_eq_true rfl) rfl dX8_writeMove_127 ⟨Nat.le_of_ble_eq_true rfl, Nat.le_of_ble_eq_true rfl⟩ ⟨Nat.le_refl _, Nat.le_refl _⟩) hZ (fun _ _ hW km hZ => ?_)
  replace hkm := hkm.tr km
  replace k_x0 := km.at k_x0 (by decide)
  replace k_x4 := km.at k_x4 (by decide)
  refine lv_iconst (v := (-1 : Int32)) C.1 C.2.1 dX8_writeMove_130 (by decide) ?_
  refine lv_icmp_eq (tgt := 141) C.1 C.2.1 dX8_writeMove_131 (by decide) (fun c_2 => ?_) (fun c_2 => ?_)
  · have hE := br_p hE c_2
    exact bX8_writeMove_141 C k_x0 k_x4 hkm hW hZ _ (lv_sub hl [0, 1, 2, 3] rfl) hE
  · have hE := br_n hE c_2
    refine lv_aload C.1 C.2.1 dX8_writeMove_134 (lv_at hl 1 rfl) ?_
    refine lv_bipush (v := (120 : Int32)) C.1 C.2.1 dX8_writeMove_136 (by decide) ?_
    obtain ⟨o_3, eo_3, hE⟩ := cl_e hE
    refine x_kV (o := o_3) (z_runV (As := [.int (120 : Int32)]) (rest := []) C (ct_X9_append l X k_x4 eo_3) cw_X8_63 hW hZ k_x4 (by decide) rfl rfl rfl hl.1 (Nat.le_of_ble_eq_true rfl) rfl dX8_writeMove_138 ⟨Nat.le_of_ble_eq_true rfl, Nat.le_of_ble_eq_true rfl⟩ ⟨Nat.le_refl _, Nat.le_refl _⟩) hZ (fun _ _ hW km hZ => ?_)
    replace hkm := hkm.tr km
    replace k_x0 := km.at k_x0 (by decide)
    replace k_x4 := km.at k_x4 (by decide)
    exact bX8_writeMove_141 C k_x0 k_x4 hkm hW hZ _ (lv_sub hl [0, 1, 2, 3] rfl) hE
set_option maxRecDepth 20000 in
theorem bX8_writeMove_115 {p : Program} {l : Launch} {e : Env} {s : State} {m : MethodId} {args : Array Value} {below : List Frame} {meth : Method} {c : Code} {X : Ec} {h0 : Hp} {o : Hp} {F : Nat} (C : Cx X p s m args meth c RX8 cX8_writeMove 9 none "writeMove") {h : Hp} {x0 : Nat} {x1 : Nat} {x2 : Int32} {x4 : Nat} {x5 : Int32} {x6 : Int32} {H : Heap} {locs : List Loc} (k_x0 : hK h x0 = 8) (k_x1 : hK h x1 = 17) (k_x4 : hK h x4 = 9) (hkm : Km h0 h) (hW : Wx X h H) (hZ : va_S (aA (eB X)) s.heap H locs) (ls : Array Slot) (hl : lv_has ls 9 [(0, .ref x0), (1, .ref x1), (2, .int x2), (4, .ref x4), (5, .int x5), (6, .int x6)]) (hE : sX8_writeMove_115 F h x0 x1 x2 x4 x5 x6 = some o) : W p l e (rm 5 107) s m args below meth c H locs 0 0 (MQ below (QV X h0 o) args s 0 0 (aA (eB X))) (F0 m 115 ls []) := by
  refine lv_aload_n C.1 C.2.1 dX8_writeMove_115 rfl (lv_at hl 0 rfl) ?_
  refine lv_aload_n C.1 C.2.1 dX8_writeMove_116 rfl (lv_at hl 1 rfl) ?_
  refine lv_iload_n C.1 C.2.1 dX8_writeMove_117 rfl (lv_at hl 2 rfl) ?_
  refine lv_iload C.1 C.2.1 dX8_writeMove_118 (lv_at hl 4 rfl) ?_
  refine lv_aload C.1 C.2.1 dX8_writeMove_120 (lv_at hl 3 rfl) ?_
  obtain ⟨o_1, eo_1, hE⟩ := cl_e hE
  refine x_kV (o := o_1) (z_runV (As := [.ref x1, .int x2, .int x5, .ref x4]) (rest := []) C (ct_X8_writeLeft l X F k_x0 k_x1 k_x4 eo_1) cw_X8_70 hW hZ k_x0 (by decide) rfl rfl rfl hl.1 (Nat.le_of_ble_eq_true rfl) rfl dX8_writeMove_122 ⟨Nat.le_of_ble_eq_true rfl, Nat.le_of_ble_eq_true rfl⟩ ⟨Nat.le_refl _, Nat.le_refl _⟩) hZ (fun _ _ hW km hZ => ?_)
  replace hkm := hkm.tr km
  replace k_x0 := km.at k_x0 (by decide)
  replace k_x1 := km.at k_x1 (by decide)
  replace k_x4 := km.at k_x4 (by decide)
  exact bX8_writeMove_125 C k_x0 k_x4 hkm hW hZ _ (lv_sub hl [0, 3, 4, 5] rfl) hE
set_option maxRecDepth 20000 in
theorem bX8_writeMove_44 {p : Program} {l : Launch} {e : Env} {s : State} {m : MethodId} {args : Array Value} {below : List Frame} {meth : Method} {c : Code} {X : Ec} {h0 : Hp} {o : Hp} {F : Nat} (C : Cx X p s m args meth c RX8 cX8_writeMove 9 none "writeMove") {h : Hp} {t0 : Nat} {t1 : Nat} {H : Heap} {locs : List Loc} (k_t0 : t0 < 52) (k_t1 : hK h t1 = 9) (hkm : Km h0 h) (hW : Wx X h H) (hZ : va_S (aA (eB X)) s.heap H locs) (ls : Array Slot) (hl : lv_has ls 9 []) (hE : sX8_writeMove_44 F h  t0 t1 = some o) : W p l e (rm 5 107) s m args below meth c H locs 0 0 (MQ below (QV X h0 o) args s 0 0 (aA (eB X))) (F0 m 44 ls [.ref (X.2.2.2.1 t0), .ref t1]) := by
  obtain ⟨o_1, eo_1, hE⟩ := cl_e hE
  refine x_kV (o := o_1) (z_runV (As := [.ref (X.2.2.2.1 t0)]) (rest := []) C (ct_X9_appendAll l X F k_t1 k_t0 eo_1) cw_X8_51 hW hZ k_t1 (by decide) rfl rfl rfl hl.1 (Nat.le_of_ble_eq_true rfl) rfl dX8_writeMove_44 ⟨Nat.le_of_ble_eq_true rfl, Nat.le_of_ble_eq_true rfl⟩ ⟨Nat.le_refl _, Nat.le_refl _⟩) hZ (fun _ _ hW km hZ => ?_)
  replace hkm := hkm.tr km
  exact x_vret C rfl hW hZ hkm hE dX8_writeMove_47
set_option maxRecDepth 20000 in
theorem ct_X8_writeMove (l : Launch) (X : Ec) (F : Nat) {h : Hp} {x0 : Nat} {x1 : Nat} {x2 : Int32} {x3 : Int32} {x4 : Nat} {o : Hp} (k_x0 : hK h x0 = 8) (k_x1 : hK h x1 = 17) (k_x4 : hK h x4 = 9) (hE : sX8_writeMove F h x0 x1 x2 x3 x4 = some o) : MetV l yX8_writeMove cX8_writeMove 9 none 5 107 X [.ref x0, .ref x1, .int x2, .int x3, .ref x4] h o := by
  refine x_met (by decide) (Nat.le_of_ble_eq_true rfl) ?_
  intro p e s m below meth c ls C hl hW hZ
  have hl : lv_has ls 9 [(0, .ref x0), (1, .ref x1), (2, .int x2), (3, .int x3), (4, .ref x4)] := hl
  have hkm : Km h h := Km.rf h
  refine lv_aload_n C.1 C.2.1 dX8_writeMove_0 rfl (lv_at hl 1 rfl) ?_
  refine lv_iload_n C.1 C.2.1 dX8_writeMove_1 rfl (lv_at hl 3 rfl) ?_
  obtain ⟨g_1, hE⟩ := gd_e hE
  refine y_iald C hW k_x1 g_1 dX8_writeMove_2 ?_
  obtain ⟨v_2, ev_2, hE⟩ := nm_e2 hE
  refine x_nmI ev_2 ?_
  refine lv_istore (lv' := [(5, .int v_2), (0, .ref x0), (1, .ref x1), (2, .int x2), (3, .int x3), (4, .ref x4)]) C.1 C.2.1 dX8_writeMove_3 hl (by decide) rfl (fun ls hl => ?_)
  refine lv_iload C.1 C.2.1 dX8_writeMove_5 (lv_at hl 0 rfl) ?_
  obtain ⟨o_3, eo_3, hE⟩ := cl_e hE
  refine x_kI (o := o_3) (z_runS (As := [.int v_2]) (rest := []) C (ct_X5_comeTo l X eo_3) cw_X8_35 hW hZ rfl hl.1 (Nat.le_of_ble_eq_true rfl) rfl dX8_writeMove_7 ⟨Nat.le_of_ble_eq_true rfl, Nat.le_of_ble_eq_true rfl⟩ ⟨Nat.le_refl _, Nat.le_refl _⟩) hZ (fun _ _ hW km hZ => ?_)
  replace hkm := hkm.tr km
  replace k_x0 := km.at k_x0 (by decide)
  replace k_x1 := km.at k_x1 (by decide)
  replace k_x4 := km.at k_x4 (by decide)
  refine lv_istore (lv' := [(6, .int o_3.1), (5, .int v_2), (0, .ref x0), (1, .ref x1), (2, .int x2), (3, .int x3), (4, .ref x4)]) C.1 C.2.1 dX8_writeMove_10 hl (by decide) rfl (fun ls hl => ?_)
  refine lv_iload C.1 C.2.1 dX8_writeMove_12 (lv_at hl 1 rfl) ?_
  obtain ⟨o_4, eo_4, hE⟩ := cl_e hE
  refine x_kI (o := o_4) (z_runS (As := [.int v_2]) (rest := []) C (ct_X5_kindOf l X eo_4) cw_X8_41 hW hZ rfl hl.1 (Nat.le_of_ble_eq_true rfl) rfl dX8_writeMove_14 ⟨Nat.le_of_ble_eq_true rfl, Nat.le_of_ble_eq_true rfl⟩ ⟨Nat.le_refl _, Nat.le_refl _⟩) hZ (fun _ _ hW km hZ => ?_)
  replace hkm := hkm.tr km
  replace k_x0 := km.at k_x0 (by decide)
  replace k_x1 := km.at k_x1 (by decide)
  replace k_x4 := km.at k_x4 (by decide)
  refine lv_istore (lv' := [(7, .int o_4.1), (6, .int o_3.1), (5, .int v_2), (0, .ref x0), (1, .ref x1), (2, .int x2), (3, .int x3), (4, .ref x4)]) C.1 C.2.1 dX8_writeMove_17 hl (by decide) rfl (fun ls hl => ?_)
  refine lv_iload C.1 C.2.1 dX8_writeMove_19 (lv_at hl 0 rfl) ?_
  refine lv_iconst (v := (2 : Int32)) C.1 C.2.1 dX8_writeMove_21 (by decide) ?_
  refine lv_icmp_ne (tgt := 48) C.1 C.2.1 dX8_writeMove_22 (by decide) (fun c_5 => ?_) (fun c_5 => ?_)
  · have hE := br_n hE c_5
    refine lv_iload C.1 C.2.1 dX8_writeMove_48 (lv_at hl 2 rfl) ?_
    obtain ⟨o_6, eo_6, hE⟩ := cl_e hE
    refine x_kI (o := o_6) (z_runS (As := [.int v_2]) (rest := []) C (ct_X5_manOf l X eo_6) cw_X8_55 hW hZ rfl hl.1 (Nat.le_of_ble_eq_true rfl) rfl dX8_writeMove_50 ⟨Nat.le_of_ble_eq_true rfl, Nat.le_of_ble_eq_true rfl⟩ ⟨Nat.le_refl _, Nat.le_refl _⟩) hZ (fun _ _ hW km hZ => ?_)
    replace hkm := hkm.tr km
    replace k_x0 := km.at k_x0 (by decide)
    replace k_x1 := km.at k_x1 (by decide)
    replace k_x4 := km.at k_x4 (by decide)
    refine lv_istore (lv' := [(8, .int o_6.1), (7, .int o_4.1), (6, .int o_3.1), (5, .int v_2), (0, .ref x0), (1, .ref x1), (2, .int x2), (3, .int x3), (4, .ref x4)]) C.1 C.2.1 dX8_writeMove_53 hl (by decide) rfl (fun ls hl => ?_)
    refine lv_iload C.1 C.2.1 dX8_writeMove_55 (lv_at hl 1 rfl) ?_
    refine lv_iconst (v := (3 : Int32)) C.1 C.2.1 dX8_writeMove_57 (by decide) ?_
    refine lv_icmp_ne (tgt := 87) C.1 C.2.1 dX8_writeMove_58 (by decide) (fun c_7 => ?_) (fun c_7 => ?_)
    · have hE := br_n hE c_7
      refine lv_iload C.1 C.2.1 dX8_writeMove_87 (lv_at hl 0 rfl) ?_
      refine lv_aload_n C.1 C.2.1 dX8_writeMove_89 rfl (lv_at hl 4 rfl) ?_
      obtain ⟨r_8, er_8, hE⟩ := cl_e hE
      refine gf_X8_27 C hW k_x0 er_8 dX8_writeMove_90 (fun k_r_8 => ?_)
      refine gf_X8_66 C hW k_r_8 dX8_writeMove_93 ?_
      refine lv_icmp_eq (tgt := 115) C.1 C.2.1 dX8_writeMove_96 (by decide) (fun c_9 => ?_) (fun c_9 => ?_)
      · have hE := br_p hE c_9
        exact bX8_writeMove_115 C k_x0 k_x1 k_x4 hkm hW hZ _ (lv_sub hl [4, 5, 6, 8, 3, 2] rfl) hE
      · have hE := br_n hE c_9
        refine lv_aload C.1 C.2.1 dX8_writeMove_99 (lv_at hl 8 rfl) ?_
        refine lv_aload_n C.1 C.2.1 dX8_writeMove_101 rfl (lv_at hl 4 rfl) ?_
        obtain ⟨r_10, er_10, hE⟩ := cl_e hE
        refine gf_X8_27 C hW k_x0 er_10 dX8_writeMove_102 (fun k_r_10 => ?_)
        refine lv_iconst (v := (2 : Int32)) C.1 C.2.1 dX8_writeMove_105 (by decide) ?_
        refine lv_iload C.1 C.2.1 dX8_writeMove_106 (lv_at hl 0 rfl) ?_
        refine lv_imul C.1 C.2.1 dX8_writeMove_108 ?_
        obtain ⟨o_11, eo_11, hE⟩ := cl_e hE
        refine x_kI (o := o_11) (z_runV (As := [.int ((2 : Int32) * o_6.1)]) (rest := [.ref x4]) C (ct_X1_letterOf l X k_r_10 eo_11) cw_X8_58 hW hZ k_r_10 (by decide) rfl rfl rfl hl.1 (Nat.le_of_ble_eq_true rfl) rfl dX8_writeMove_109 ⟨Nat.le_of_ble_eq_true rfl, Nat.le_of_ble_eq_true rfl⟩ ⟨Nat.le_refl _, Nat.le_refl _⟩) hZ (fun _ _ hW km hZ => ?_)
        replace hkm := hkm.tr km
        replace k_x0 := km.at k_x0 (by decide)
        replace k_x1 := km.at k_x1 (by decide)
        replace k_x4 := km.at k_x4 (by decide)
        obtain ⟨o_12, eo_12, hE⟩ := cl_e hE
        refine x_kV (o := o_12) (z_runV (As := [.int o_11.1]) (rest := []) C (ct_X9_append l X k_x4 eo_12) cw_X8_63 hW hZ k_x4 (by decide) rfl rfl rfl hl.1 (Nat.le_of_ble_eq_true rfl) rfl dX8_writeMove_112 ⟨Nat.le_of_ble_eq_true rfl, Nat.le_of_ble_eq_true rfl⟩ ⟨Nat.le_refl _, Nat.le_refl _⟩) hZ (fun _ _ hW km hZ => ?_)
        replace hkm := hkm.tr km
        replace k_x0 := km.at k_x0 (by decide)
        replace k_x1 := km.at k_x1 (by decide)
        replace k_x4 := km.at k_x4 (by decide)
        exact bX8_writeMove_115 C k_x0 k_x1 k_x4 hkm hW hZ _ (lv_sub hl [4, 5, 6, 8, 3, 2] rfl) hE
    · have hE := br_p hE c_7
      refine lv_aload C.1 C.2.1 dX8_writeMove_61 (lv_at hl 8 rfl) ?_
      refine lv_aload_n C.1 C.2.1 dX8_writeMove_63 rfl (lv_at hl 4 rfl) ?_
      obtain ⟨r_13, er_13, hE⟩ := cl_e hE
      refine gf_X8_27 C hW k_x0 er_13 dX8_writeMove_64 (fun k_r_13 => ?_)
      refine lv_iconst (v := (2 : Int32)) C.1 C.2.1 dX8_writeMove_67 (by decide) ?_
      refine lv_iload C.1 C.2.1 dX8_writeMove_68 (lv_at hl 0 rfl) ?_
      refine lv_imul C.1 C.2.1 dX8_writeMove_70 ?_
      obtain ⟨o_14, eo_14, hE⟩ := cl_e hE
      refine x_kI (o := o_14) (z_runV (As := [.int ((2 : Int32) * o_6.1)]) (rest := [.ref x4]) C (ct_X1_letterOf l X k_r_13 eo_14) cw_X8_58 hW hZ k_r_13 (by decide) rfl rfl rfl hl.1 (Nat.le_of_ble_eq_true rfl) rfl dX8_writeMove_71 ⟨Nat.le_of_ble_eq_true rfl, Nat.le_of_ble_eq_true rfl⟩ ⟨Nat.le_refl _, Nat.le_refl _⟩) hZ (fun _ _ hW km hZ => ?_)
      replace hkm := hkm.tr km
      replace k_x0 := km.at k_x0 (by decide)
      replace k_x1 := km.at k_x1 (by decide)
      replace k_x4 := km.at k_x4 (by decide)
      obtain ⟨o_15, eo_15, hE⟩ := cl_e hE
      refine x_kV (o := o_15) (z_runV (As := [.int o_14.1]) (rest := []) C (ct_X9_append l X k_x4 eo_15) cw_X8_63 hW hZ k_x4 (by decide) rfl rfl rfl hl.1 (Nat.le_of_ble_eq_true rfl) rfl dX8_writeMove_74 ⟨Nat.le_of_ble_eq_true rfl, Nat.le_of_ble_eq_true rfl⟩ ⟨Nat.le_refl _, Nat.le_refl _⟩) hZ (fun _ _ hW km hZ => ?_)
      replace hkm := hkm.tr km
      replace k_x0 := km.at k_x0 (by decide)
      replace k_x1 := km.at k_x1 (by decide)
      replace k_x4 := km.at k_x4 (by decide)
      refine lv_aload C.1 C.2.1 dX8_writeMove_77 (lv_at hl 8 rfl) ?_
      refine lv_bipush (v := (64 : Int32)) C.1 C.2.1 dX8_writeMove_79 (by decide) ?_
      obtain ⟨o_16, eo_16, hE⟩ := cl_e hE
      refine x_kV (o := o_16) (z_runV (As := [.int (64 : Int32)]) (rest := []) C (ct_X9_append l X k_x4 eo_16) cw_X8_63 hW hZ k_x4 (by decide) rfl rfl rfl hl.1 (Nat.le_of_ble_eq_true rfl) rfl dX8_writeMove_81 ⟨Nat.le_of_ble_eq_true rfl, Nat.le_of_ble_eq_true rfl⟩ ⟨Nat.le_refl _, Nat.le_refl _⟩) hZ (fun _ _ hW km hZ => ?_)
      replace hkm := hkm.tr km
      replace k_x0 := km.at k_x0 (by decide)
      replace k_x1 := km.at k_x1 (by decide)
      replace k_x4 := km.at k_x4 (by decide)
      refine lv_goto (tgt := 125) C.1 C.2.1 dX8_writeMove_84 (by decide) ?_
      exact bX8_writeMove_125 C k_x0 k_x4 hkm hW hZ _ (lv_sub hl [4, 8, 3, 2] rfl) hE
  · have hE := br_p hE c_5
    refine lv_aload C.1 C.2.1 dX8_writeMove_25 (lv_at hl 7 rfl) ?_
    refine lv_iload C.1 C.2.1 dX8_writeMove_27 (lv_at hl 1 rfl) ?_
    refine lv_iload C.1 C.2.1 dX8_writeMove_29 (lv_at hl 2 rfl) ?_
    obtain ⟨o_17, eo_17, hE⟩ := cl_e hE
    refine x_kI (o := o_17) (z_runS (As := [.int v_2]) (rest := [.int o_3.1, .ref x4]) C (ct_X5_leftBy l X eo_17) cw_X8_44 hW hZ rfl hl.1 (Nat.le_of_ble_eq_true rfl) rfl dX8_writeMove_31 ⟨Nat.le_of_ble_eq_true rfl, Nat.le_of_ble_eq_true rfl⟩ ⟨Nat.le_refl _, Nat.le_refl _⟩) hZ (fun _ _ hW km hZ => ?_)
    replace hkm := hkm.tr km
    replace k_x0 := km.at k_x0 (by decide)
    replace k_x1 := km.at k_x1 (by decide)
    replace k_x4 := km.at k_x4 (by decide)
    refine lv_icmp_le (tgt := 42) C.1 C.2.1 dX8_writeMove_34 (by decide) (fun c_18 => ?_) (fun c_18 => ?_)
    · have hE := br_p hE c_18
      refine va_ldcS C.1 C.2.1 C.2.2.2.1 (C.2.2.2.2.2.2.2.2.1 27 (by decide)).2 dX8_writeMove_42 ?_
      exact bX8_writeMove_44 C (by decide) k_x4 hkm hW hZ _ (lv_sub hl [] rfl) hE
    · have hE := br_n hE c_18
      refine va_ldcS C.1 C.2.1 C.2.2.2.1 (C.2.2.2.2.2.2.2.2.1 26 (by decide)).2 dX8_writeMove_37 ?_
      refine lv_goto (tgt := 44) C.1 C.2.1 dX8_writeMove_39 (by decide) ?_
      exact bX8_writeMove_44 C (by decide) k_x4 hkm hW hZ _ (lv_sub hl [] rfl) hE
set_option maxRecDepth 100000 in
theorem m_299 : Cond.fieldLink RX8 113 (TX3 5).1 (TX3 5).2.1 (TX3 5).2.2.1 ∈ W0 := w0_in (List.mem_append_right _ (List.mem_of_getElem? (i := 299) rfl)) rfl
set_option maxRecDepth 100000 in
theorem m_1322 : Cond.instanceMethod yX5_make ∈ W0 := w0_in (List.mem_append_right _ (List.mem_of_getElem? (i := 1322) rfl)) rfl
set_option maxRecDepth 100000 in
theorem m_1323 : Cond.selects RX5 yX5_make yX5_make ∈ W0 := w0_in (List.mem_append_right _ (List.mem_of_getElem? (i := 1323) rfl)) rfl
set_option maxRecDepth 100000 in
theorem m_1324 : Cond.code yX5_make cX5_make 8 none ∈ W0 := w0_in (List.mem_append_right _ (List.mem_of_getElem? (i := 1324) rfl)) rfl
set_option maxRecDepth 100000 in
theorem m_1362 : Cond.instanceMethod yX5_endOf ∈ W0 := w0_in (List.mem_append_right _ (List.mem_of_getElem? (i := 1362) rfl)) rfl
set_option maxRecDepth 100000 in
theorem m_1363 : Cond.selects RX5 yX5_endOf yX5_endOf ∈ W0 := w0_in (List.mem_append_right _ (List.mem_of_getElem? (i := 1363) rfl)) rfl
set_option maxRecDepth 100000 in
theorem m_1364 : Cond.code yX5_endOf cX5_endOf 3 (some .int) ∈ W0 := w0_in (List.mem_append_right _ (List.mem_of_getElem? (i := 1364) rfl)) rfl
set_option maxRecDepth 100000 in
theorem m_1381 : Cond.instanceMethod yX5_winnerOf ∈ W0 := w0_in (List.mem_append_right _ (List.mem_of_getElem? (i := 1381) rfl)) rfl
set_option maxRecDepth 100000 in
theorem m_1382 : Cond.selects RX5 yX5_winnerOf yX5_winnerOf ∈ W0 := w0_in (List.mem_append_right _ (List.mem_of_getElem? (i := 1382) rfl)) rfl
set_option maxRecDepth 100000 in
theorem m_1383 : Cond.code yX5_winnerOf cX5_winnerOf 6 (some .int) ∈ W0 := w0_in (List.mem_append_right _ (List.mem_of_getElem? (i := 1383) rfl)) rfl
set_option maxRecDepth 100000 in
theorem m_1435 : Cond.methodLink RX8 97 yX3_copyFrom ∈ W0 := w0_in (List.mem_append_right _ (List.mem_of_getElem? (i := 1435) rfl)) rfl
set_option maxRecDepth 100000 in
theorem m_1436 : Cond.methodLink RX8 101 yX5_make ∈ W0 := w0_in (List.mem_append_right _ (List.mem_of_getElem? (i := 1436) rfl)) rfl
set_option maxRecDepth 100000 in
theorem m_1437 : Cond.methodLink RX8 105 yX5_endOf ∈ W0 := w0_in (List.mem_append_right _ (List.mem_of_getElem? (i := 1437) rfl)) rfl
set_option maxRecDepth 100000 in
theorem m_1438 : Cond.methodLink RX8 109 yX5_winnerOf ∈ W0 := w0_in (List.mem_append_right _ (List.mem_of_getElem? (i := 1438) rfl)) rfl
set_option maxRecDepth 100000 in
theorem m_1439 : Cond.methodLink RX8 116 yX5_isRoyalHit ∈ W0 := w0_in (List.mem_append_right _ (List.mem_of_getElem? (i := 1439) rfl)) rfl
section
variable {p : Program} {l : Launch} {e : Env} {R : Room} {s : State} {m : MethodId} {args : Array Value} {below : List Frame} {meth : Method} {c : Code} {H : Heap} {locs : List Loc} {cells slots : Nat} {Q : State → Prop}
variable {cc : ByteArray} {pc : Nat} {ls : Array Slot} {rest : List Value} {X : Ec} {h h1 : Hp} {nL : Nat} {rt : Option FieldType} {mn : String}
theorem gf_X8_12 {a r : Nat} (C : Cx X p s m args meth c RX8 cc nL rt mn) (hW : Wx X h H) (ha : hK h a = 8) (hr : hR h a 2 = some r) (hdg : decode cc pc = .ok (.getfield 12, 3)) (kk : hK h r = 3 → W p l e R s m args below meth c H locs cells slots Q (F0 m (pc + 3) ls (.ref r :: rest))) : W p l e R s m args below meth c H locs cells slots Q (F0 m pc ls (.ref a :: rest)) :=
  y_getr C hW ha i_X8 (by decide) rfl (by decide) m_404 rfl rfl hr hdg kk
theorem gf_X8_31 {a r : Nat} (C : Cx X p s m args meth c RX8 cc nL rt mn) (hW : Wx X h H) (ha : hK h a = 8) (hr : hR h a 1 = some r) (hdg : decode cc pc = .ok (.getfield 31, 3)) (kk : hK h r = 5 → W p l e R s m args below meth c H locs cells slots Q (F0 m (pc + 3) ls (.ref r :: rest))) : W p l e R s m args below meth c H locs cells slots Q (F0 m pc ls (.ref a :: rest)) :=
  y_getr C hW ha i_X8 (by decide) rfl (by decide) m_403 rfl rfl hr hdg kk
theorem gf_X8_113 {a : Nat} (C : Cx X p s m args meth c RX8 cc nL rt mn) (hW : Wx X h H) (ha : hK h a = 3) (hdg : decode cc pc = .ok (.getfield 113, 3)) (kk : W p l e R s m args below meth c H locs cells slots Q (F0 m (pc + 3) ls (.int (hI h a 5) :: rest))) : W p l e R s m args below meth c H locs cells slots Q (F0 m pc ls (.ref a :: rest)) :=
  y_geti C hW ha i_X3 (by decide) rfl (by decide) m_299 rfl hdg kk
end
theorem cw_X8_97 : cwd RX8 97 yX3_copyFrom cX3_copyFrom 3 none false 1 := ⟨m_1232, m_1435, m_8, ⟨m_1230, m_1231⟩, by decide, by decide, by decide +kernel⟩
theorem cw_X8_101 : cwd RX8 101 yX5_make cX5_make 8 none false 2 := ⟨m_1324, m_1436, m_7, ⟨m_1322, m_1323⟩, by decide, by decide, by decide +kernel⟩
theorem cw_X8_105 : cwd RX8 105 yX5_endOf cX5_endOf 3 (some .int) false 1 := ⟨m_1364, m_1437, m_7, ⟨m_1362, m_1363⟩, by decide, by decide, by decide +kernel⟩
theorem cw_X8_109 : cwd RX8 109 yX5_winnerOf cX5_winnerOf 6 (some .int) false 2 := ⟨m_1383, m_1438, m_7, ⟨m_1381, m_1382⟩, by decide, by decide, by decide +kernel⟩
theorem cw_X8_116 : cwd RX8 116 yX5_isRoyalHit cX5_isRoyalHit 3 (some .boolean) false 2 := ⟨m_1069, m_1439, m_7, ⟨m_1067, m_1068⟩, by decide, by decide, by decide +kernel⟩
theorem dX8_markOf_0 : decode cX8_markOf 0 = .ok (.aload_n 0, 1) := by decide +kernel
theorem dX8_markOf_1 : decode cX8_markOf 1 = .ok (.getfield 12, 3) := by decide +kernel
theorem dX8_markOf_4 : decode cX8_markOf 4 = .ok (.aload_n 1, 1) := by decide +kernel
theorem dX8_markOf_5 : decode cX8_markOf 5 = .ok (.invokevirtual 97, 3) := by decide +kernel
theorem dX8_markOf_8 : decode cX8_markOf 8 = .ok (.aload_n 0, 1) := by decide +kernel
theorem dX8_markOf_9 : decode cX8_markOf 9 = .ok (.getfield 31, 3) := by decide +kernel
theorem dX8_markOf_12 : decode cX8_markOf 12 = .ok (.aload_n 0, 1) := by decide +kernel
theorem dX8_markOf_13 : decode cX8_markOf 13 = .ok (.getfield 12, 3) := by decide +kernel
theorem dX8_markOf_16 : decode cX8_markOf 16 = .ok (.iload_n 2, 1) := by decide +kernel
theorem dX8_markOf_17 : decode cX8_markOf 17 = .ok (.invokevirtual 101, 3) := by decide +kernel
theorem dX8_markOf_20 : decode cX8_markOf 20 = .ok (.aload_n 0, 1) := by decide +kernel
theorem dX8_markOf_21 : decode cX8_markOf 21 = .ok (.getfield 31, 3) := by decide +kernel
theorem dX8_markOf_24 : decode cX8_markOf 24 = .ok (.aload_n 0, 1) := by decide +kernel
theorem dX8_markOf_25 : decode cX8_markOf 25 = .ok (.getfield 12, 3) := by decide +kernel
theorem dX8_markOf_28 : decode cX8_markOf 28 = .ok (.invokevirtual 105, 3) := by decide +kernel
theorem dX8_markOf_31 : decode cX8_markOf 31 = .ok (.istore_n 3, 1) := by decide +kernel
theorem dX8_markOf_32 : decode cX8_markOf 32 = .ok (.aload_n 0, 1) := by decide +kernel
theorem dX8_markOf_33 : decode cX8_markOf 33 = .ok (.getfield 31, 3) := by decide +kernel
theorem dX8_markOf_36 : decode cX8_markOf 36 = .ok (.aload_n 0, 1) := by decide +kernel
theorem dX8_markOf_37 : decode cX8_markOf 37 = .ok (.getfield 12, 3) := by decide +kernel
theorem dX8_markOf_40 : decode cX8_markOf 40 = .ok (.iload_n 3, 1) := by decide +kernel
theorem dX8_markOf_41 : decode cX8_markOf 41 = .ok (.invokevirtual 109, 3) := by decide +kernel
theorem dX8_markOf_44 : decode cX8_markOf 44 = .ok (.aload_n 1, 1) := by decide +kernel
theorem dX8_markOf_45 : decode cX8_markOf 45 = .ok (.getfield 113, 3) := by decide +kernel
theorem dX8_markOf_48 : decode cX8_markOf 48 = .ok (.if_icmp .ne 6, 3) := by decide +kernel
theorem dX8_markOf_51 : decode cX8_markOf 51 = .ok (.bipush 35, 2) := by decide +kernel
theorem dX8_markOf_53 : decode cX8_markOf 53 = .ok (.ireturn, 1) := by decide +kernel
theorem dX8_markOf_54 : decode cX8_markOf 54 = .ok (.aload_n 0, 1) := by decide +kernel
theorem dX8_markOf_55 : decode cX8_markOf 55 = .ok (.getfield 31, 3) := by decide +kernel
theorem dX8_markOf_58 : decode cX8_markOf 58 = .ok (.aload_n 0, 1) := by decide +kernel
theorem dX8_markOf_59 : decode cX8_markOf 59 = .ok (.getfield 12, 3) := by decide +kernel
theorem dX8_markOf_62 : decode cX8_markOf 62 = .ok (.aload_n 0, 1) := by decide +kernel
theorem dX8_markOf_63 : decode cX8_markOf 63 = .ok (.getfield 12, 3) := by decide +kernel
theorem dX8_markOf_66 : decode cX8_markOf 66 = .ok (.getfield 113, 3) := by decide +kernel
theorem dX8_markOf_69 : decode cX8_markOf 69 = .ok (.invokevirtual 116, 3) := by decide +kernel
theorem dX8_markOf_72 : decode cX8_markOf 72 = .ok (.ifCond .eq 8, 3) := by decide +kernel
theorem dX8_markOf_75 : decode cX8_markOf 75 = .ok (.bipush 43, 2) := by decide +kernel
theorem dX8_markOf_77 : decode cX8_markOf 77 = .ok (.goto 4, 3) := by decide +kernel
theorem dX8_markOf_80 : decode cX8_markOf 80 = .ok (.iconst (-1), 1) := by decide +kernel
theorem dX8_markOf_81 : decode cX8_markOf 81 = .ok (.ireturn, 1) := by decide +kernel
set_option maxRecDepth 20000 in
theorem moX8_markOf_81 {o : Int32 × Hp} {F : Nat} {h : Hp} {t0 : Int32} (hE : sX8_markOf_81 F h  t0 = some o) : Le h o.2 := by
  exact le_some2 hE
set_option maxRecDepth 20000 in
theorem moX8_markOf {o : Int32 × Hp} {F : Nat} {h : Hp} {x0 : Nat} {x1 : Nat} {x2 : Int32} (hE : sX8_markOf F h x0 x1 x2 = some o) : Le h o.2 := by
  obtain ⟨r_1, er_1, hE⟩ := cl_e hE
  obtain ⟨o_2, eo_2, hE⟩ := cl_e hE
  refine (moX3_copyFrom eo_2).tr ?_
  obtain ⟨r_3, er_3, hE⟩ := cl_e hE
  obtain ⟨r_4, er_4, hE⟩ := cl_e hE
  obtain ⟨o_5, eo_5, hE⟩ := cl_e hE
  refine (moX5_make eo_5).tr ?_
  obtain ⟨r_6, er_6, hE⟩ := cl_e hE
  obtain ⟨r_7, er_7, hE⟩ := cl_e hE
  obtain ⟨o_8, eo_8, hE⟩ := cl_e hE
  refine (moX5_endOf eo_8).tr ?_
  obtain ⟨r_9, er_9, hE⟩ := cl_e hE
  obtain ⟨r_10, er_10, hE⟩ := cl_e hE
  obtain ⟨o_11, eo_11, hE⟩ := cl_e hE
  refine (moX5_winnerOf eo_11).tr ?_
  rcases br_e hE with ⟨_, hE⟩ | ⟨_, hE⟩
  · exact le_some2 hE
  · obtain ⟨r_13, er_13, hE⟩ := cl_e hE
    obtain ⟨r_14, er_14, hE⟩ := cl_e hE
    obtain ⟨r_15, er_15, hE⟩ := cl_e hE
    obtain ⟨o_16, eo_16, hE⟩ := cl_e hE
    refine (moX5_isRoyalHit eo_16).tr ?_
    rcases br_e hE with ⟨_, hE⟩ | ⟨_, hE⟩
    · exact moX8_markOf_81 hE
    · exact moX8_markOf_81 hE
set_option maxRecDepth 20000 in
theorem bX8_markOf_81 {p : Program} {l : Launch} {e : Env} {s : State} {m : MethodId} {args : Array Value} {below : List Frame} {meth : Method} {c : Code} {X : Ec} {h0 : Hp} {o : Int32 × Hp} {F : Nat} (C : Cx X p s m args meth c RX8 cX8_markOf 4 (some .int) "markOf") {h : Hp} {t0 : Int32} {H : Heap} {locs : List Loc} (hkm : Km h0 h) (hW : Wx X h H) (hZ : va_S (aA (eB X)) s.heap H locs) (ls : Array Slot) (hl : lv_has ls 4 []) (hE : sX8_markOf_81 F h  t0 = some o) : W p l e (rm 5 161) s m args below meth c H locs 0 0 (MQ below (QI X h0 o.1 o.2) args s 0 0 (aA (eB X))) (F0 m 81 ls [.int t0]) := by
  exact x_iret C rfl rfl hW hZ hkm hE dX8_markOf_81
set_option maxRecDepth 20000 in
theorem ct_X8_markOf (l : Launch) (X : Ec) (F : Nat) {h : Hp} {x0 : Nat} {x1 : Nat} {x2 : Int32} {o : Int32 × Hp} (k_x0 : hK h x0 = 8) (k_x1 : hK h x1 = 3) (hE : sX8_markOf F h x0 x1 x2 = some o) : MetI l yX8_markOf cX8_markOf 4 (some .int) 5 161 X [.ref x0, .ref x1, .int x2] h o := by
  refine x_met (by decide) (Nat.le_of_ble_eq_true rfl) ?_
  intro p e s m below meth c ls C hl hW hZ
  have hl : lv_has ls 4 [(0, .ref x0), (1, .ref x1), (2, .int x2)] := hl
  have hkm : Km h h := Km.rf h
  refine lv_aload_n C.1 C.2.1 dX8_markOf_0 rfl (lv_at hl 0 rfl) ?_
  obtain ⟨r_1, er_1, hE⟩ := cl_e hE
  refine gf_X8_12 C hW k_x0 er_1 dX8_markOf_1 (fun k_r_1 => ?_)
  refine lv_aload_n C.1 C.2.1 dX8_markOf_4 rfl (lv_at hl 1 rfl) ?_
  obtain ⟨o_2, eo_2, hE⟩ := cl_e hE
  refine x_kV (o := o_2) (z_runV (As := [.ref x1]) (rest := []) C (ct_X3_copyFrom l X F k_r_1 k_x1 eo_2) cw_X8_97 hW hZ k_r_1 (by decide) rfl rfl rfl hl.1 (Nat.le_of_ble_eq_true rfl) rfl dX8_markOf_5 ⟨Nat.le_of_ble_eq_true rfl, Nat.le_of_ble_eq_true rfl⟩ ⟨Nat.le_refl _, Nat.le_refl _⟩) hZ (fun _ _ hW km hZ => ?_)
  replace hkm := hkm.tr km
  replace k_x0 := km.at k_x0 (by decide)
  replace k_x1 := km.at k_x1 (by decide)
  refine lv_aload_n C.1 C.2.1 dX8_markOf_8 rfl (lv_at hl 0 rfl) ?_
  obtain ⟨r_3, er_3, hE⟩ := cl_e hE
  refine gf_X8_31 C hW k_x0 er_3 dX8_markOf_9 (fun k_r_3 => ?_)
  refine lv_aload_n C.1 C.2.1 dX8_markOf_12 rfl (lv_at hl 0 rfl) ?_
  obtain ⟨r_4, er_4, hE⟩ := cl_e hE
  refine gf_X8_12 C hW k_x0 er_4 dX8_markOf_13 (fun k_r_4 => ?_)
  refine lv_iload_n C.1 C.2.1 dX8_markOf_16 rfl (lv_at hl 2 rfl) ?_
  obtain ⟨o_5, eo_5, hE⟩ := cl_e hE
  refine x_kV (o := o_5) (z_runV (As := [.ref r_4, .int x2]) (rest := []) C (ct_X5_make l X F k_r_3 k_r_4 eo_5) cw_X8_101 hW hZ k_r_3 (by decide) rfl rfl rfl hl.1 (Nat.le_of_ble_eq_true rfl) rfl dX8_markOf_17 ⟨Nat.le_of_ble_eq_true rfl, Nat.le_of_ble_eq_true rfl⟩ ⟨Nat.le_refl _, Nat.le_refl _⟩) hZ (fun _ _ hW km hZ => ?_)
  replace hkm := hkm.tr km
  replace k_x0 := km.at k_x0 (by decide)
  replace k_x1 := km.at k_x1 (by decide)
  refine lv_aload_n C.1 C.2.1 dX8_markOf_20 rfl (lv_at hl 0 rfl) ?_
  obtain ⟨r_6, er_6, hE⟩ := cl_e hE
  refine gf_X8_31 C hW k_x0 er_6 dX8_markOf_21 (fun k_r_6 => ?_)
  refine lv_aload_n C.1 C.2.1 dX8_markOf_24 rfl (lv_at hl 0 rfl) ?_
  obtain ⟨r_7, er_7, hE⟩ := cl_e hE
  refine gf_X8_12 C hW k_x0 er_7 dX8_markOf_25 (fun k_r_7 => ?_)
  obtain ⟨o_8, eo_8, hE⟩ := cl_e hE
  refine x_kI (o := o_8) (z_runV (As := [.ref r_7]) (rest := []) C (ct_X5_endOf l X F k_r_6 k_r_7 eo_8) cw_X8_105 hW hZ k_r_6 (by decide) rfl rfl rfl hl.1 (Nat.le_of_ble_eq_true rfl) rfl dX8_markOf_28 ⟨Nat.le_of_ble_eq_true rfl, Nat.le_of_ble_eq_true rfl⟩ ⟨Nat.le_refl _, Nat.le_refl _⟩) hZ (fun _ _ hW km hZ => ?_)
  replace hkm := hkm.tr km
  replace k_x0 := km.at k_x0 (by decide)
  replace k_x1 := km.at k_x1 (by decide)
  refine lv_istore_n (lv' := [(3, .int o_8.1), (0, .ref x0), (1, .ref x1), (2, .int x2)]) C.1 C.2.1 dX8_markOf_31 rfl hl (by decide) rfl (fun ls hl => ?_)
  refine lv_aload_n C.1 C.2.1 dX8_markOf_32 rfl (lv_at hl 1 rfl) ?_
  obtain ⟨r_9, er_9, hE⟩ := cl_e hE
  refine gf_X8_31 C hW k_x0 er_9 dX8_markOf_33 (fun k_r_9 => ?_)
  refine lv_aload_n C.1 C.2.1 dX8_markOf_36 rfl (lv_at hl 1 rfl) ?_
  obtain ⟨r_10, er_10, hE⟩ := cl_e hE
  refine gf_X8_12 C hW k_x0 er_10 dX8_markOf_37 (fun k_r_10 => ?_)
  refine lv_iload_n C.1 C.2.1 dX8_markOf_40 rfl (lv_at hl 0 rfl) ?_
  obtain ⟨o_11, eo_11, hE⟩ := cl_e hE
  refine x_kI (o := o_11) (z_runV (As := [.ref r_10, .int o_8.1]) (rest := []) C (ct_X5_winnerOf l X k_r_9 k_r_10 eo_11) cw_X8_109 hW hZ k_r_9 (by decide) rfl rfl rfl hl.1 (Nat.le_of_ble_eq_true rfl) rfl dX8_markOf_41 ⟨Nat.le_of_ble_eq_true rfl, Nat.le_of_ble_eq_true rfl⟩ ⟨Nat.le_refl _, Nat.le_refl _⟩) hZ (fun _ _ hW km hZ => ?_)
  replace hkm := hkm.tr km
  replace k_x0 := km.at k_x0 (by decide)
  replace k_x1 := km.at k_x1 (by decide)
  refine lv_aload_n C.1 C.2.1 dX8_markOf_44 rfl (lv_at hl 2 rfl) ?_
  refine gf_X8_113 C hW k_x1 dX8_markOf_45 ?_
  refine lv_icmp_ne (tgt := 54) C.1 C.2.1 dX8_markOf_48 (by decide) (fun c_12 => ?_) (fun c_12 => ?_)
  · have hE := br_n hE c_12
    refine lv_aload_n C.1 C.2.1 dX8_markOf_54 rfl (lv_at hl 1 rfl) ?_
    obtain ⟨r_13, er_13, hE⟩ := cl_e hE
    refine gf_X8_31 C hW k_x0 er_13 dX8_markOf_55 (fun k_r_13 => ?_)
    refine lv_aload_n C.1 C.2.1 dX8_markOf_58 rfl (lv_at hl 1 rfl) ?_
    obtain ⟨r_14, er_14, hE⟩ := cl_e hE
    refine gf_X8_12 C hW k_x0 er_14 dX8_markOf_59 (fun k_r_14 => ?_)
    refine lv_aload_n C.1 C.2.1 dX8_markOf_62 rfl (lv_at hl 1 rfl) ?_
    obtain ⟨r_15, er_15, hE⟩ := cl_e hE
    refine gf_X8_12 C hW k_x0 er_15 dX8_markOf_63 (fun k_r_15 => ?_)
    refine gf_X8_113 C hW k_r_15 dX8_markOf_66 ?_
    obtain ⟨o_16, eo_16, hE⟩ := cl_e hE
    refine x_kI (o := o_16) (z_runV (As := [.ref r_14, .int (hI o_11.2 r_15 5)]) (rest := []) C (ct_X5_isRoyalHit l X F k_r_13 k_r_14 eo_16) cw_X8_116 hW hZ k_r_13 (by decide) rfl rfl rfl hl.1 (Nat.le_of_ble_eq_true rfl) rfl dX8_markOf_69 ⟨Nat.le_of_ble_eq_true rfl, Nat.le_of_ble_eq_true rfl⟩ ⟨Nat.le_refl _, Nat.le_refl _⟩) hZ (fun _ _ hW km hZ => ?_)
    replace hkm := hkm.tr km
    replace k_x0 := km.at k_x0 (by decide)
    replace k_x1 := km.at k_x1 (by decide)
    refine lv_if_eq (tgt := 80) C.1 C.2.1 dX8_markOf_72 (by decide) (fun c_17 => ?_) (fun c_17 => ?_)
    · have hE := br_p hE c_17
      refine lv_iconst (v := (-1 : Int32)) C.1 C.2.1 dX8_markOf_80 (by decide) ?_
      exact bX8_markOf_81 C hkm hW hZ _ (lv_sub hl [] rfl) hE
    · have hE := br_n hE c_17
      refine lv_bipush (v := (43 : Int32)) C.1 C.2.1 dX8_markOf_75 (by decide) ?_
      refine lv_goto (tgt := 81) C.1 C.2.1 dX8_markOf_77 (by decide) ?_
      exact bX8_markOf_81 C hkm hW hZ _ (lv_sub hl [] rfl) hE
  · have hE := br_p hE c_12
    refine lv_bipush (v := (35 : Int32)) C.1 C.2.1 dX8_markOf_51 (by decide) ?_
    exact x_iret C rfl rfl hW hZ hkm hE dX8_markOf_53
set_option maxRecDepth 100000 in
theorem m_48 : Cond.fieldLink RX8 126 (TX9 1).1 (TX9 1).2.1 (TX9 1).2.2.1 ∈ W0 := w0_in (List.mem_append_right _ (List.mem_of_getElem? (i := 48) rfl)) rfl
set_option maxRecDepth 100000 in
theorem m_1455 : Cond.methodLink RX8 133 yX9_byteAt ∈ W0 := w0_in (List.mem_append_right _ (List.mem_of_getElem? (i := 1455) rfl)) rfl
section
variable {p : Program} {l : Launch} {e : Env} {R : Room} {s : State} {m : MethodId} {args : Array Value} {below : List Frame} {meth : Method} {c : Code} {H : Heap} {locs : List Loc} {cells slots : Nat} {Q : State → Prop}
variable {cc : ByteArray} {pc : Nat} {ls : Array Slot} {rest : List Value} {X : Ec} {h h1 : Hp} {nL : Nat} {rt : Option FieldType} {mn : String}
theorem gf_X8_23 {a r : Nat} (C : Cx X p s m args meth c RX8 cc nL rt mn) (hW : Wx X h H) (ha : hK h a = 8) (hr : hR h a 3 = some r) (hdg : decode cc pc = .ok (.getfield 23, 3)) (kk : hK h r = 9 → W p l e R s m args below meth c H locs cells slots Q (F0 m (pc + 3) ls (.ref r :: rest))) : W p l e R s m args below meth c H locs cells slots Q (F0 m pc ls (.ref a :: rest)) :=
  y_getr C hW ha i_X8 (by decide) rfl (by decide) m_405 rfl rfl hr hdg kk
theorem gf_X8_126 {a : Nat} (C : Cx X p s m args meth c RX8 cc nL rt mn) (hW : Wx X h H) (ha : hK h a = 9) (hdg : decode cc pc = .ok (.getfield 126, 3)) (kk : W p l e R s m args below meth c H locs cells slots Q (F0 m (pc + 3) ls (.int (hI h a 1) :: rest))) : W p l e R s m args below meth c H locs cells slots Q (F0 m pc ls (.ref a :: rest)) :=
  y_geti C hW ha i_X9 (by decide) rfl (by decide) m_48 rfl hdg kk
end
theorem cw_X8_133 : cwd RX8 133 yX9_byteAt cX9_byteAt 2 (some .int) false 1 := ⟨m_660, m_1455, m_2, ⟨m_658, m_659⟩, by decide, by decide, by decide +kernel⟩
theorem dX8_begins_0 : decode cX8_begins 0 = .ok (.iconst 0, 1) := by decide +kernel
theorem dX8_begins_1 : decode cX8_begins 1 = .ok (.istore_n 2, 1) := by decide +kernel
theorem dX8_begins_2 : decode cX8_begins 2 = .ok (.iload_n 2, 1) := by decide +kernel
theorem dX8_begins_3 : decode cX8_begins 3 = .ok (.aload_n 0, 1) := by decide +kernel
theorem dX8_begins_4 : decode cX8_begins 4 = .ok (.getfield 23, 3) := by decide +kernel
theorem dX8_begins_7 : decode cX8_begins 7 = .ok (.getfield 126, 3) := by decide +kernel
theorem dX8_begins_10 : decode cX8_begins 10 = .ok (.if_icmp .ge 27, 3) := by decide +kernel
theorem dX8_begins_13 : decode cX8_begins 13 = .ok (.aload_n 0, 1) := by decide +kernel
theorem dX8_begins_14 : decode cX8_begins 14 = .ok (.getfield 23, 3) := by decide +kernel
theorem dX8_begins_17 : decode cX8_begins 17 = .ok (.iload_n 2, 1) := by decide +kernel
theorem dX8_begins_18 : decode cX8_begins 18 = .ok (.invokevirtual 133, 3) := by decide +kernel
theorem dX8_begins_21 : decode cX8_begins 21 = .ok (.aload_n 1, 1) := by decide +kernel
theorem dX8_begins_22 : decode cX8_begins 22 = .ok (.iload_n 2, 1) := by decide +kernel
theorem dX8_begins_23 : decode cX8_begins 23 = .ok (.invokevirtual 133, 3) := by decide +kernel
theorem dX8_begins_26 : decode cX8_begins 26 = .ok (.if_icmp .eq 5, 3) := by decide +kernel
theorem dX8_begins_29 : decode cX8_begins 29 = .ok (.iconst 0, 1) := by decide +kernel
theorem dX8_begins_30 : decode cX8_begins 30 = .ok (.ireturn, 1) := by decide +kernel
theorem dX8_begins_31 : decode cX8_begins 31 = .ok (.iinc 2 1, 3) := by decide +kernel
theorem dX8_begins_34 : decode cX8_begins 34 = .ok (.goto (-32), 3) := by decide +kernel
theorem dX8_begins_37 : decode cX8_begins 37 = .ok (.iconst 1, 1) := by decide +kernel
theorem dX8_begins_38 : decode cX8_begins 38 = .ok (.ireturn, 1) := by decide +kernel
set_option maxRecDepth 20000 in
theorem moX8_begins_2 {o : Int32 × Hp} {F : Nat} : ∀ (f : Nat) {h : Hp} {x0 : Nat} {x1 : Nat} {x2 : Int32}, sX8_begins_2 F f h x0 x1 x2 = some o → Le h o.2 := by
  intro f
  induction f with
  | zero =>
    intro h x0 x1 x2 hE
    rw [sX8_begins_2] at hE
    cases hE
  | succ f ih =>
    intro h x0 x1 x2 hE
    rw [sX8_begins_2] at hE
    have mk_2 : ∀ (h : Hp) (x0 : Nat) (x1 : Nat) (x2 : Int32), sX8_begins_2 F f h x0 x1 x2 = some o → Le h o.2 := fun h x0 x1 x2 hE => ih hE
    obtain ⟨r_1, er_1, hE⟩ := cl_e hE
    rcases br_e hE with ⟨_, hE⟩ | ⟨_, hE⟩
    · exact le_some2 hE
    · obtain ⟨r_3, er_3, hE⟩ := cl_e hE
      obtain ⟨o_4, eo_4, hE⟩ := cl_e hE
      refine (moX9_byteAt eo_4).tr ?_
      obtain ⟨o_5, eo_5, hE⟩ := cl_e hE
      refine (moX9_byteAt eo_5).tr ?_
      rcases br_e hE with ⟨_, hE⟩ | ⟨_, hE⟩
      · obtain ⟨v_7, ev_7, hE⟩ := nm_e2 hE
        exact mk_2 _ _ _ _ hE
      · exact le_some2 hE
set_option maxRecDepth 20000 in
theorem moX8_begins {o : Int32 × Hp} {F : Nat} {h : Hp} {x0 : Nat} {x1 : Nat} (hE : sX8_begins F h x0 x1 = some o) : Le h o.2 := by
  exact moX8_begins_2 _ hE
set_option maxRecDepth 20000 in
theorem bX8_begins_2 {p : Program} {l : Launch} {e : Env} {s : State} {m : MethodId} {args : Array Value} {below : List Frame} {meth : Method} {c : Code} {X : Ec} {h0 : Hp} {o : Int32 × Hp} {F : Nat} (C : Cx X p s m args meth c RX8 cX8_begins 3 (some .boolean) "begins") : ∀ (f : Nat) {h : Hp} {x0 : Nat} {x1 : Nat} {x2 : Int32} {H : Heap} {locs : List Loc} (k_x0 : hK h x0 = 8) (k_x1 : hK h x1 = 9), Km h0 h → Wx X h H → va_S (aA (eB X)) s.heap H locs → ∀ (ls : Array Slot), lv_has ls 3 [(0, .ref x0), (1, .ref x1), (2, .int x2)] → sX8_begins_2 F f h x0 x1 x2 = some o → W p l e (rm 1 21) s m args below meth c H locs 0 0 (MQ below (QI X h0 o.1 o.2) args s 0 0 (aA (eB X))) (F0 m 2 ls []) := by
  intro f
  induction f with
  | zero =>
    intro h x0 x1 x2 H locs k_x0 k_x1 hkm hW hZ ls hl hE
    rw [sX8_begins_2] at hE
    cases hE
  | succ f ih =>
    intro h x0 x1 x2 H locs k_x0 k_x1 hkm hW hZ ls hl hE
    rw [sX8_begins_2] at hE
    have hk_2 : ∀ (h : Hp) (x0 : Nat) (x1 : Nat) (x2 : Int32) (H : Heap) (locs : List Loc), hK h x0 = 8 → hK h x1 = 9 → Km h0 h → Wx X h H → va_S (aA (eB X)) s.heap H locs → ∀ (ls : Array Slot), lv_has ls 3 [(0, .ref x0), (1, .ref x1), (2, .int x2)] → sX8_begins_2 F f h x0 x1 x2 = some o → W p l e (rm 1 21) s m args below meth c H locs 0 0 (MQ below (QI X h0 o.1 o.2) args s 0 0 (aA (eB X))) (F0 m 2 ls []) := fun h x0 x1 x2 H locs k_x0 k_x1 a b c ls hl hE => ih k_x0 k_x1 a b c ls hl hE
    refine lv_iload_n C.1 C.2.1 dX8_begins_2 rfl (lv_at hl 2 rfl) ?_
    refine lv_aload_n C.1 C.2.1 dX8_begins_3 rfl (lv_at hl 0 rfl) ?_
    obtain ⟨r_1, er_1, hE⟩ := cl_e hE
    refine gf_X8_23 C hW k_x0 er_1 dX8_begins_4 (fun k_r_1 => ?_)
    refine gf_X8_126 C hW k_r_1 dX8_begins_7 ?_
    refine lv_icmp_ge (tgt := 37) C.1 C.2.1 dX8_begins_10 (by decide) (fun c_2 => ?_) (fun c_2 => ?_)
    · have hE := br_p hE c_2
      refine lv_iconst (v := (1 : Int32)) C.1 C.2.1 dX8_begins_37 (by decide) ?_
      exact x_iret C rfl (by decide) hW hZ hkm hE dX8_begins_38
    · have hE := br_n hE c_2
      refine lv_aload_n C.1 C.2.1 dX8_begins_13 rfl (lv_at hl 0 rfl) ?_
      obtain ⟨r_3, er_3, hE⟩ := cl_e hE
      refine gf_X8_23 C hW k_x0 er_3 dX8_begins_14 (fun k_r_3 => ?_)
      refine lv_iload_n C.1 C.2.1 dX8_begins_17 rfl (lv_at hl 2 rfl) ?_
      obtain ⟨o_4, eo_4, hE⟩ := cl_e hE
      refine x_kI (o := o_4) (z_runV (As := [.int x2]) (rest := []) C (ct_X9_byteAt l X k_r_3 eo_4) cw_X8_133 hW hZ k_r_3 (by decide) rfl rfl rfl hl.1 (Nat.le_of_ble_eq_true rfl) rfl dX8_begins_18 ⟨Nat.le_of_ble_eq_true rfl, Nat.le_of_ble_eq_true rfl⟩ ⟨Nat.le_refl _, Nat.le_refl _⟩) hZ (fun _ _ hW km hZ => ?_)
      replace hkm := hkm.tr km
      replace k_x0 := km.at k_x0 (by decide)
      replace k_x1 := km.at k_x1 (by decide)
      refine lv_aload_n C.1 C.2.1 dX8_begins_21 rfl (lv_at hl 1 rfl) ?_
      refine lv_iload_n C.1 C.2.1 dX8_begins_22 rfl (lv_at hl 2 rfl) ?_
      obtain ⟨o_5, eo_5, hE⟩ := cl_e hE
      refine x_kI (o := o_5) (z_runV (As := [.int x2]) (rest := [.int o_4.1]) C (ct_X9_byteAt l X k_x1 eo_5) cw_X8_133 hW hZ k_x1 (by decide) rfl rfl rfl hl.1 (Nat.le_of_ble_eq_true rfl) rfl dX8_begins_23 ⟨Nat.le_of_ble_eq_true rfl, Nat.le_of_ble_eq_true rfl⟩ ⟨Nat.le_refl _, Nat.le_refl _⟩) hZ (fun _ _ hW km hZ => ?_)
      replace hkm := hkm.tr km
      replace k_x0 := km.at k_x0 (by decide)
      replace k_x1 := km.at k_x1 (by decide)
      refine lv_icmp_eq (tgt := 31) C.1 C.2.1 dX8_begins_26 (by decide) (fun c_6 => ?_) (fun c_6 => ?_)
      · have hE := br_p hE c_6
        obtain ⟨v_7, ev_7, hE⟩ := nm_e2 hE
        refine lv_iinc (v := v_7) (lv' := [(2, .int v_7), (0, .ref x0), (1, .ref x1)]) C.1 C.2.1 dX8_begins_31 hl (k := 2) rfl (by rw [ev_7]; rfl) (by decide) rfl (fun ls hl => ?_)
        refine lv_goto (tgt := 2) C.1 C.2.1 dX8_begins_34 (by decide) ?_
        exact hk_2 _ _ _ _ _ _ k_x0 k_x1 hkm hW hZ _ (lv_sub hl [1, 2, 0] rfl) hE
      · have hE := br_n hE c_6
        refine lv_iconst (v := (0 : Int32)) C.1 C.2.1 dX8_begins_29 (by decide) ?_
        exact x_iret C rfl (by decide) hW hZ hkm hE dX8_begins_30
set_option maxRecDepth 20000 in
theorem ct_X8_begins (l : Launch) (X : Ec) (F : Nat) {h : Hp} {x0 : Nat} {x1 : Nat} {o : Int32 × Hp} (k_x0 : hK h x0 = 8) (k_x1 : hK h x1 = 9) (hE : sX8_begins F h x0 x1 = some o) : MetI l yX8_begins cX8_begins 3 (some .boolean) 1 21 X [.ref x0, .ref x1] h o := by
  refine x_met (by decide) (Nat.le_of_ble_eq_true rfl) ?_
  intro p e s m below meth c ls C hl hW hZ
  have hl : lv_has ls 3 [(0, .ref x0), (1, .ref x1)] := hl
  have hkm : Km h h := Km.rf h
  refine lv_iconst (v := (0 : Int32)) C.1 C.2.1 dX8_begins_0 (by decide) ?_
  refine lv_istore_n (lv' := [(2, .int (0 : Int32)), (0, .ref x0), (1, .ref x1)]) C.1 C.2.1 dX8_begins_1 rfl hl (by decide) rfl (fun ls hl => ?_)
  exact bX8_begins_2 C F k_x0 k_x1 hkm hW hZ _ (lv_sub hl [1, 2, 0] rfl) hE
set_option maxRecDepth 100000 in
theorem ms_78 : Cond.selects RX8 yX8_begins yX8_begins ∈ W0 := w0_in (List.mem_append_left _ (List.mem_of_getElem? (i := 78) rfl)) rfl
set_option maxRecDepth 100000 in
theorem m_826 : Cond.instanceMethod yX9_clear ∈ W0 := w0_in (List.mem_append_right _ (List.mem_of_getElem? (i := 826) rfl)) rfl
set_option maxRecDepth 100000 in
theorem m_827 : Cond.selects RX9 yX9_clear yX9_clear ∈ W0 := w0_in (List.mem_append_right _ (List.mem_of_getElem? (i := 827) rfl)) rfl
set_option maxRecDepth 100000 in
theorem m_828 : Cond.code yX9_clear cX9_clear 1 none ∈ W0 := w0_in (List.mem_append_right _ (List.mem_of_getElem? (i := 828) rfl)) rfl
set_option maxRecDepth 100000 in
theorem m_1409 : Cond.instanceMethod yX8_writeMove ∈ W0 := w0_in (List.mem_append_right _ (List.mem_of_getElem? (i := 1409) rfl)) rfl
set_option maxRecDepth 100000 in
theorem m_1410 : Cond.selects RX8 yX8_writeMove yX8_writeMove ∈ W0 := w0_in (List.mem_append_right _ (List.mem_of_getElem? (i := 1410) rfl)) rfl
set_option maxRecDepth 100000 in
theorem m_1411 : Cond.code yX8_writeMove cX8_writeMove 9 none ∈ W0 := w0_in (List.mem_append_right _ (List.mem_of_getElem? (i := 1411) rfl)) rfl
set_option maxRecDepth 100000 in
theorem m_1449 : Cond.methodLink RX8 120 yX9_clear ∈ W0 := w0_in (List.mem_append_right _ (List.mem_of_getElem? (i := 1449) rfl)) rfl
set_option maxRecDepth 100000 in
theorem m_1450 : Cond.methodLink RX8 123 yX8_writeMove ∈ W0 := w0_in (List.mem_append_right _ (List.mem_of_getElem? (i := 1450) rfl)) rfl
set_option maxRecDepth 100000 in
theorem m_1451 : Cond.methodLink RX8 129 yX8_begins ∈ W0 := w0_in (List.mem_append_right _ (List.mem_of_getElem? (i := 1451) rfl)) rfl
set_option maxRecDepth 100000 in
theorem m_1453 : Cond.instanceMethod yX8_begins ∈ W0 := w0_in (List.mem_append_right _ (List.mem_of_getElem? (i := 1453) rfl)) rfl
set_option maxRecDepth 100000 in
theorem m_1454 : Cond.code yX8_begins cX8_begins 3 (some .boolean) ∈ W0 := w0_in (List.mem_append_right _ (List.mem_of_getElem? (i := 1454) rfl)) rfl
theorem cw_X8_129 : cwd RX8 129 yX8_begins cX8_begins 3 (some .boolean) false 1 := ⟨m_1454, m_1451, m_11, ⟨m_1453, ms_78⟩, by decide, by decide, by decide +kernel⟩
theorem cw_X8_120 : cwd RX8 120 yX9_clear cX9_clear 1 none false 0 := ⟨m_828, m_1449, m_2, ⟨m_826, m_827⟩, by decide, by decide, by decide +kernel⟩
theorem cw_X8_123 : cwd RX8 123 yX8_writeMove cX8_writeMove 9 none false 4 := ⟨m_1411, m_1450, m_11, ⟨m_1409, m_1410⟩, by decide, by decide, by decide +kernel⟩
theorem dX8_find_0 : decode cX8_find 0 = .ok (.iconst 0, 1) := by decide +kernel
theorem dX8_find_1 : decode cX8_find 1 = .ok (.istore 4, 2) := by decide +kernel
theorem dX8_find_3 : decode cX8_find 3 = .ok (.iload 4, 2) := by decide +kernel
theorem dX8_find_5 : decode cX8_find 5 = .ok (.iload_n 2, 1) := by decide +kernel
theorem dX8_find_6 : decode cX8_find 6 = .ok (.if_icmp .ge 64, 3) := by decide +kernel
theorem dX8_find_9 : decode cX8_find 9 = .ok (.aload_n 0, 1) := by decide +kernel
theorem dX8_find_10 : decode cX8_find 10 = .ok (.getfield 23, 3) := by decide +kernel
theorem dX8_find_13 : decode cX8_find 13 = .ok (.invokevirtual 120, 3) := by decide +kernel
theorem dX8_find_16 : decode cX8_find 16 = .ok (.aload_n 0, 1) := by decide +kernel
theorem dX8_find_17 : decode cX8_find 17 = .ok (.aload_n 1, 1) := by decide +kernel
theorem dX8_find_18 : decode cX8_find 18 = .ok (.iload_n 2, 1) := by decide +kernel
theorem dX8_find_19 : decode cX8_find 19 = .ok (.iload 4, 2) := by decide +kernel
theorem dX8_find_21 : decode cX8_find 21 = .ok (.aload_n 0, 1) := by decide +kernel
theorem dX8_find_22 : decode cX8_find 22 = .ok (.getfield 23, 3) := by decide +kernel
theorem dX8_find_25 : decode cX8_find 25 = .ok (.invokevirtual 123, 3) := by decide +kernel
theorem dX8_find_28 : decode cX8_find 28 = .ok (.aload_n 3, 1) := by decide +kernel
theorem dX8_find_29 : decode cX8_find 29 = .ok (.getfield 126, 3) := by decide +kernel
theorem dX8_find_32 : decode cX8_find 32 = .ok (.aload_n 0, 1) := by decide +kernel
theorem dX8_find_33 : decode cX8_find 33 = .ok (.getfield 23, 3) := by decide +kernel
theorem dX8_find_36 : decode cX8_find 36 = .ok (.getfield 126, 3) := by decide +kernel
theorem dX8_find_39 : decode cX8_find 39 = .ok (.isub, 1) := by decide +kernel
theorem dX8_find_40 : decode cX8_find 40 = .ok (.istore 5, 2) := by decide +kernel
theorem dX8_find_42 : decode cX8_find 42 = .ok (.iload 5, 2) := by decide +kernel
theorem dX8_find_44 : decode cX8_find 44 = .ok (.ifCond .eq 9, 3) := by decide +kernel
theorem dX8_find_47 : decode cX8_find 47 = .ok (.iload 5, 2) := by decide +kernel
theorem dX8_find_49 : decode cX8_find 49 = .ok (.iconst 1, 1) := by decide +kernel
theorem dX8_find_50 : decode cX8_find 50 = .ok (.if_icmp .ne 14, 3) := by decide +kernel
theorem dX8_find_53 : decode cX8_find 53 = .ok (.aload_n 0, 1) := by decide +kernel
theorem dX8_find_54 : decode cX8_find 54 = .ok (.aload_n 3, 1) := by decide +kernel
theorem dX8_find_55 : decode cX8_find 55 = .ok (.invokevirtual 129, 3) := by decide +kernel
theorem dX8_find_58 : decode cX8_find 58 = .ok (.ifCond .eq 6, 3) := by decide +kernel
theorem dX8_find_61 : decode cX8_find 61 = .ok (.iload 4, 2) := by decide +kernel
theorem dX8_find_63 : decode cX8_find 63 = .ok (.ireturn, 1) := by decide +kernel
theorem dX8_find_64 : decode cX8_find 64 = .ok (.iinc 4 1, 3) := by decide +kernel
theorem dX8_find_67 : decode cX8_find 67 = .ok (.goto (-64), 3) := by decide +kernel
theorem dX8_find_70 : decode cX8_find 70 = .ok (.iconst (-1), 1) := by decide +kernel
theorem dX8_find_71 : decode cX8_find 71 = .ok (.ireturn, 1) := by decide +kernel
set_option maxRecDepth 20000 in
theorem moX8_find_64 {o : Int32 × Hp} {k_3 : Hp → Nat → Nat → Int32 → Nat → Int32 → Option (Int32 × Hp)} {F : Nat} (mk_3 : ∀ (h : Hp) (x0 : Nat) (x1 : Nat) (x2 : Int32) (x3 : Nat) (x4 : Int32), k_3 h x0 x1 x2 x3 x4 = some o → Le h o.2) {h : Hp} {x0 : Nat} {x1 : Nat} {x2 : Int32} {x3 : Nat} {x4 : Int32} (hE : sX8_find_64 F k_3 h x0 x1 x2 x3 x4 = some o) : Le h o.2 := by
  obtain ⟨v_1, ev_1, hE⟩ := nm_e2 hE
  exact mk_3 _ _ _ _ _ _ hE
set_option maxRecDepth 20000 in
theorem moX8_find_53 {o : Int32 × Hp} {k_3 : Hp → Nat → Nat → Int32 → Nat → Int32 → Option (Int32 × Hp)} {F : Nat} (mk_3 : ∀ (h : Hp) (x0 : Nat) (x1 : Nat) (x2 : Int32) (x3 : Nat) (x4 : Int32), k_3 h x0 x1 x2 x3 x4 = some o → Le h o.2) {h : Hp} {x0 : Nat} {x1 : Nat} {x2 : Int32} {x3 : Nat} {x4 : Int32} (hE : sX8_find_53 F k_3 h x0 x1 x2 x3 x4 = some o) : Le h o.2 := by
  obtain ⟨o_1, eo_1, hE⟩ := cl_e hE
  refine (moX8_begins eo_1).tr ?_
  rcases br_e hE with ⟨_, hE⟩ | ⟨_, hE⟩
  · exact moX8_find_64 mk_3 hE
  · exact le_some2 hE
set_option maxRecDepth 20000 in
theorem moX8_find_3 {o : Int32 × Hp} {F : Nat} : ∀ (f : Nat) {h : Hp} {x0 : Nat} {x1 : Nat} {x2 : Int32} {x3 : Nat} {x4 : Int32}, sX8_find_3 F f h x0 x1 x2 x3 x4 = some o → Le h o.2 := by
  intro f
  induction f with
  | zero =>
    intro h x0 x1 x2 x3 x4 hE
    rw [sX8_find_3] at hE
    cases hE
  | succ f ih =>
    intro h x0 x1 x2 x3 x4 hE
    rw [sX8_find_3] at hE
    have mk_3 : ∀ (h : Hp) (x0 : Nat) (x1 : Nat) (x2 : Int32) (x3 : Nat) (x4 : Int32), sX8_find_3 F f h x0 x1 x2 x3 x4 = some o → Le h o.2 := fun h x0 x1 x2 x3 x4 hE => ih hE
    rcases br_e hE with ⟨_, hE⟩ | ⟨_, hE⟩
    · exact le_some2 hE
    · obtain ⟨r_2, er_2, hE⟩ := cl_e hE
      obtain ⟨o_3, eo_3, hE⟩ := cl_e hE
      refine (moX9_clear eo_3).tr ?_
      obtain ⟨r_4, er_4, hE⟩ := cl_e hE
      obtain ⟨o_5, eo_5, hE⟩ := cl_e hE
      refine (moX8_writeMove eo_5).tr ?_
      obtain ⟨r_6, er_6, hE⟩ := cl_e hE
      obtain ⟨v_7, ev_7, hE⟩ := nm_e2 hE
      rcases br_e hE with ⟨_, hE⟩ | ⟨_, hE⟩
      · exact moX8_find_53 mk_3 hE
      · rcases br_e hE with ⟨_, hE⟩ | ⟨_, hE⟩
        · exact moX8_find_53 mk_3 hE
        · exact moX8_find_64 mk_3 hE
set_option maxRecDepth 20000 in
theorem moX8_find {o : Int32 × Hp} {F : Nat} {h : Hp} {x0 : Nat} {x1 : Nat} {x2 : Int32} {x3 : Nat} (hE : sX8_find F h x0 x1 x2 x3 = some o) : Le h o.2 := by
  exact moX8_find_3 _ hE
set_option maxRecDepth 20000 in
theorem bX8_find_64 {p : Program} {l : Launch} {e : Env} {s : State} {m : MethodId} {args : Array Value} {below : List Frame} {meth : Method} {c : Code} {X : Ec} {h0 : Hp} {o : Int32 × Hp} {k_3 : Hp → Nat → Nat → Int32 → Nat → Int32 → Option (Int32 × Hp)} {F : Nat} (C : Cx X p s m args meth c RX8 cX8_find 6 (some .int) "find") (hk_3 : ∀ (h : Hp) (x0 : Nat) (x1 : Nat) (x2 : Int32) (x3 : Nat) (x4 : Int32) (H : Heap) (locs : List Loc), hK h x0 = 8 → hK h x1 = 17 → hK h x3 = 9 → Km h0 h → Wx X h H → va_S (aA (eB X)) s.heap H locs → ∀ (ls : Array Slot), lv_has ls 6 [(0, .ref x0), (1, .ref x1), (2, .int x2), (3, .ref x3), (4, .int x4)] → k_3 h x0 x1 x2 x3 x4 = some o → W p l e (rm 6 135) s m args below meth c H locs 0 0 (MQ below (QI X h0 o.1 o.2) args s 0 0 (aA (eB X))) (F0 m 3 ls [])) {h : Hp} {x0 : Nat} {x1 : Nat} {x2 : Int32} {x3 : Nat} {x4 : Int32} {H : Heap} {locs : List Loc} (k_x0 : hK h x0 = 8) (k_x1 : hK h x1 = 17) (k_x3 : hK h x3 = 9) (hkm : Km h0 h) (hW : Wx X h H) (hZ : va_S (aA (eB X)) s.heap H locs) (ls : Array Slot) (hl : lv_has ls 6 [(0, .ref x0), (1, .ref x1), (2, .int x2), (3, .ref x3), (4, .int x4)]) (hE : sX8_find_64 F k_3 h x0 x1 x2 x3 x4 = some o) : W p l e (rm 6 135) s m args below meth c H locs 0 0 (MQ below (QI X h0 o.1 o.2) args s 0 0 (aA (eB X))) (F0 m 64 ls []) := by
  obtain ⟨v_1, ev_1, hE⟩ := nm_e2 hE
  refine lv_iinc (v := v_1) (lv' := [(4, .int v_1), (0, .ref x0), (1, .ref x1), (2, .int x2), (3, .ref x3)]) C.1 C.2.1 dX8_find_64 hl (k := 4) rfl (by rw [ev_1]; rfl) (by decide) rfl (fun ls hl => ?_)
  refine lv_goto (tgt := 3) C.1 C.2.1 dX8_find_67 (by decide) ?_
  exact hk_3 _ _ _ _ _ _ _ _ k_x0 k_x1 k_x3 hkm hW hZ _ (lv_sub hl [1, 2, 3, 4, 0] rfl) hE
set_option maxRecDepth 20000 in
theorem bX8_find_53 {p : Program} {l : Launch} {e : Env} {s : State} {m : MethodId} {args : Array Value} {below : List Frame} {meth : Method} {c : Code} {X : Ec} {h0 : Hp} {o : Int32 × Hp} {k_3 : Hp → Nat → Nat → Int32 → Nat → Int32 → Option (Int32 × Hp)} {F : Nat} (C : Cx X p s m args meth c RX8 cX8_find 6 (some .int) "find") (hk_3 : ∀ (h : Hp) (x0 : Nat) (x1 : Nat) (x2 : Int32) (x3 : Nat) (x4 : Int32) (H : Heap) (locs : List Loc), hK h x0 = 8 → hK h x1 = 17 → hK h x3 = 9 → Km h0 h → Wx X h H → va_S (aA (eB X)) s.heap H locs → ∀ (ls : Array Slot), lv_has ls 6 [(0, .ref x0), (1, .ref x1), (2, .int x2), (3, .ref x3), (4, .int x4)] → k_3 h x0 x1 x2 x3 x4 = some o → W p l e (rm 6 135) s m args below meth c H locs 0 0 (MQ below (QI X h0 o.1 o.2) args s 0 0 (aA (eB X))) (F0 m 3 ls [])) {h : Hp} {x0 : Nat} {x1 : Nat} {x2 : Int32} {x3 : Nat} {x4 : Int32} {H : Heap} {locs : List Loc} (k_x0 : hK h x0 = 8) (k_x1 : hK h x1 = 17) (k_x3 : hK h x3 = 9) (hkm : Km h0 h) (hW : Wx X h H) (hZ : va_S (aA (eB X)) s.heap H locs) (ls : Array Slot) (hl : lv_has ls 6 [(0, .ref x0), (1, .ref x1), (2, .int x2), (3, .ref x3), (4, .int x4)]) (hE : sX8_find_53 F k_3 h x0 x1 x2 x3 x4 = some o) : W p l e (rm 6 135) s m args below meth c H locs 0 0 (MQ below (QI X h0 o.1 o.2) args s 0 0 (aA (eB X))) (F0 m 53 ls []) := by
  refine lv_aload_n C.1 C.2.1 dX8_find_53 rfl (lv_at hl 0 rfl) ?_
  refine lv_aload_n C.1 C.2.1 dX8_find_54 rfl (lv_at hl 3 rfl) ?_
  obtain ⟨o_1, eo_1, hE⟩ := cl_e hE
  refine x_kI (o := o_1) (z_runV (As := [.ref x3]) (rest := []) C (ct_X8_begins l X F k_x0 k_x3 eo_1) cw_X8_129 hW hZ k_x0 (by decide) rfl rfl rfl hl.1 (Nat.le_of_ble_eq_true rfl) rfl dX8_find_55 ⟨Nat.le_of_ble_eq_true rfl, Nat.le_of_ble_eq_true rfl⟩ ⟨Nat.le_refl _, Nat.le_refl _⟩) hZ (fun _ _ hW km hZ => ?_)
  replace hkm := hkm.tr km
  replace k_x0 := km.at k_x0 (by decide)
  replace k_x1 := km.at k_x1 (by decide)
  replace k_x3 := km.at k_x3 (by decide)
  refine lv_if_eq (tgt := 64) C.1 C.2.1 dX8_find_58 (by decide) (fun c_2 => ?_) (fun c_2 => ?_)
  · have hE := br_p hE c_2
    exact bX8_find_64 C hk_3 k_x0 k_x1 k_x3 hkm hW hZ _ (lv_sub hl [0, 1, 2, 3, 4] rfl) hE
  · have hE := br_n hE c_2
    refine lv_iload C.1 C.2.1 dX8_find_61 (lv_at hl 4 rfl) ?_
    exact x_iret C rfl rfl hW hZ hkm hE dX8_find_63
set_option maxRecDepth 20000 in
theorem bX8_find_3 {p : Program} {l : Launch} {e : Env} {s : State} {m : MethodId} {args : Array Value} {below : List Frame} {meth : Method} {c : Code} {X : Ec} {h0 : Hp} {o : Int32 × Hp} {F : Nat} (C : Cx X p s m args meth c RX8 cX8_find 6 (some .int) "find") : ∀ (f : Nat) {h : Hp} {x0 : Nat} {x1 : Nat} {x2 : Int32} {x3 : Nat} {x4 : Int32} {H : Heap} {locs : List Loc} (k_x0 : hK h x0 = 8) (k_x1 : hK h x1 = 17) (k_x3 : hK h x3 = 9), Km h0 h → Wx X h H → va_S (aA (eB X)) s.heap H locs → ∀ (ls : Array Slot), lv_has ls 6 [(0, .ref x0), (1, .ref x1), (2, .int x2), (3, .ref x3), (4, .int x4)] → sX8_find_3 F f h x0 x1 x2 x3 x4 = some o → W p l e (rm 6 135) s m args below meth c H locs 0 0 (MQ below (QI X h0 o.1 o.2) args s 0 0 (aA (eB X))) (F0 m 3 ls []) := by
  intro f
  induction f with
  | zero =>
    intro h x0 x1 x2 x3 x4 H locs k_x0 k_x1 k_x3 hkm hW hZ ls hl hE
    rw [sX8_find_3] at hE
    cases hE
  | succ f ih =>
    intro h x0 x1 x2 x3 x4 H locs k_x0 k_x1 k_x3 hkm hW hZ ls hl hE
    rw [sX8_find_3] at hE
    have hk_3 : ∀ (h : Hp) (x0 : Nat) (x1 : Nat) (x2 : Int32) (x3 : Nat) (x4 : Int32) (H : Heap) (locs : List Loc), hK h x0 = 8 → hK h x1 = 17 → hK h x3 = 9 → Km h0 h → Wx X h H → va_S (aA (eB X)) s.heap H locs → ∀ (ls : Array Slot), lv_has ls 6 [(0, .ref x0), (1, .ref x1), (2, .int x2), (3, .ref x3), (4, .int x4)] → sX8_find_3 F f h x0 x1 x2 x3 x4 = some o → W p l e (rm 6 135) s m args below meth c H locs 0 0 (MQ below (QI X h0 o.1 o.2) args s 0 0 (aA (eB X))) (F0 m 3 ls []) := fun h x0 x1 x2 x3 x4 H locs k_x0 k_x1 k_x3 a b c ls hl hE => ih k_x0 k_x1 k_x3 a b c ls hl hE
    refine lv_iload C.1 C.2.1 dX8_find_3 (lv_at hl 4 rfl) ?_
    refine lv_iload_n C.1 C.2.1 dX8_find_5 rfl (lv_at hl 2 rfl) ?_
    refine lv_icmp_ge (tgt := 70) C.1 C.2.1 dX8_find_6 (by decide) (fun c_1 => ?_) (fun c_1 => ?_)
    · have hE := br_p hE c_1
      refine lv_iconst (v := (-1 : Int32)) C.1 C.2.1 dX8_find_70 (by decide) ?_
      exact x_iret C rfl rfl hW hZ hkm hE dX8_find_71
    · have hE := br_n hE c_1
      refine lv_aload_n C.1 C.2.1 dX8_find_9 rfl (lv_at hl 0 rfl) ?_
      obtain ⟨r_2, er_2, hE⟩ := cl_e hE
      refine gf_X8_23 C hW k_x0 er_2 dX8_find_10 (fun k_r_2 => ?_)
      obtain ⟨o_3, eo_3, hE⟩ := cl_e hE
      refine x_kV (o := o_3) (z_runV (As := []) (rest := []) C (ct_X9_clear l X k_r_2 eo_3) cw_X8_120 hW hZ k_r_2 (by decide) rfl rfl rfl hl.1 (Nat.le_of_ble_eq_true rfl) rfl dX8_find_13 ⟨Nat.le_of_ble_eq_true rfl, Nat.le_of_ble_eq_true rfl⟩ ⟨Nat.le_refl _, Nat.le_refl _⟩) hZ (fun _ _ hW km hZ => ?_)
      replace hkm := hkm.tr km
      replace k_x0 := km.at k_x0 (by decide)
      replace k_x1 := km.at k_x1 (by decide)
      replace k_x3 := km.at k_x3 (by decide)
      refine lv_aload_n C.1 C.2.1 dX8_find_16 rfl (lv_at hl 0 rfl) ?_
      refine lv_aload_n C.1 C.2.1 dX8_find_17 rfl (lv_at hl 1 rfl) ?_
      refine lv_iload_n C.1 C.2.1 dX8_find_18 rfl (lv_at hl 2 rfl) ?_
      refine lv_iload C.1 C.2.1 dX8_find_19 (lv_at hl 4 rfl) ?_
      refine lv_aload_n C.1 C.2.1 dX8_find_21 rfl (lv_at hl 0 rfl) ?_
      obtain ⟨r_4, er_4, hE⟩ := cl_e hE
      refine gf_X8_23 C hW k_x0 er_4 dX8_find_22 (fun k_r_4 => ?_)
      obtain ⟨o_5, eo_5, hE⟩ := cl_e hE
      refine x_kV (o := o_5) (z_runV (As := [.ref x1, .int x2, .int x4, .ref r_4]) (rest := []) C (ct_X8_writeMove l X F k_x0 k_x1 k_r_4 eo_5) cw_X8_123 hW hZ k_x0 (by decide) rfl rfl rfl hl.1 (Nat.le_of_ble_eq_true rfl) rfl dX8_find_25 ⟨Nat.le_of_ble_eq_true rfl, Nat.le_of_ble_eq_true rfl⟩ ⟨Nat.le_refl _, Nat.le_refl _⟩) hZ (fun _ _ hW km hZ => ?_)
      replace hkm := hkm.tr km
      replace k_x0 := km.at k_x0 (by decide)
      replace k_x1 := km.at k_x1 (by decide)
      replace k_x3 := km.at k_x3 (by decide)
      refine lv_aload_n C.1 C.2.1 dX8_find_28 rfl (lv_at hl 3 rfl) ?_
      refine gf_X8_126 C hW k_x3 dX8_find_29 ?_
      refine lv_aload_n C.1 C.2.1 dX8_find_32 rfl (lv_at hl 0 rfl) ?_
      obtain ⟨r_6, er_6, hE⟩ := cl_e hE
      refine gf_X8_23 C hW k_x0 er_6 dX8_find_33 (fun k_r_6 => ?_)
      refine gf_X8_126 C hW k_r_6 dX8_find_36 ?_
      refine lv_isub C.1 C.2.1 dX8_find_39 ?_
      obtain ⟨v_7, ev_7, hE⟩ := nm_e2 hE
      refine x_nmI ev_7 ?_
      refine lv_istore (lv' := [(5, .int v_7), (0, .ref x0), (1, .ref x1), (2, .int x2), (3, .ref x3), (4, .int x4)]) C.1 C.2.1 dX8_find_40 hl (by decide) rfl (fun ls hl => ?_)
      refine lv_iload C.1 C.2.1 dX8_find_42 (lv_at hl 0 rfl) ?_
      refine lv_if_eq (tgt := 53) C.1 C.2.1 dX8_find_44 (by decide) (fun c_8 => ?_) (fun c_8 => ?_)
      · have hE := br_p hE c_8
        exact bX8_find_53 C hk_3 k_x0 k_x1 k_x3 hkm hW hZ _ (lv_sub hl [1, 2, 3, 4, 5] rfl) hE
      · have hE := br_n hE c_8
        refine lv_iload C.1 C.2.1 dX8_find_47 (lv_at hl 0 rfl) ?_
        refine lv_iconst (v := (1 : Int32)) C.1 C.2.1 dX8_find_49 (by decide) ?_
        refine lv_icmp_ne (tgt := 64) C.1 C.2.1 dX8_find_50 (by decide) (fun c_9 => ?_) (fun c_9 => ?_)
        · have hE := br_n hE c_9
          exact bX8_find_64 C hk_3 k_x0 k_x1 k_x3 hkm hW hZ _ (lv_sub hl [1, 2, 3, 4, 5] rfl) hE
        · have hE := br_p hE c_9
          exact bX8_find_53 C hk_3 k_x0 k_x1 k_x3 hkm hW hZ _ (lv_sub hl [1, 2, 3, 4, 5] rfl) hE
set_option maxRecDepth 20000 in
theorem ct_X8_find (l : Launch) (X : Ec) (F : Nat) {h : Hp} {x0 : Nat} {x1 : Nat} {x2 : Int32} {x3 : Nat} {o : Int32 × Hp} (k_x0 : hK h x0 = 8) (k_x1 : hK h x1 = 17) (k_x3 : hK h x3 = 9) (hE : sX8_find F h x0 x1 x2 x3 = some o) : MetI l yX8_find cX8_find 6 (some .int) 6 135 X [.ref x0, .ref x1, .int x2, .ref x3] h o := by
  refine x_met (by decide) (Nat.le_of_ble_eq_true rfl) ?_
  intro p e s m below meth c ls C hl hW hZ
  have hl : lv_has ls 6 [(0, .ref x0), (1, .ref x1), (2, .int x2), (3, .ref x3)] := hl
  have hkm : Km h h := Km.rf h
  refine lv_iconst (v := (0 : Int32)) C.1 C.2.1 dX8_find_0 (by decide) ?_
  refine lv_istore (lv' := [(4, .int (0 : Int32)), (0, .ref x0), (1, .ref x1), (2, .int x2), (3, .ref x3)]) C.1 C.2.1 dX8_find_1 hl (by decide) rfl (fun ls hl => ?_)
  exact bX8_find_3 C F k_x0 k_x1 k_x3 hkm hW hZ _ (lv_sub hl [1, 2, 3, 4, 0] rfl) hE
theorem dX8_isWhole_0 : decode cX8_isWhole 0 = .ok (.aload_n 1, 1) := by decide +kernel
theorem dX8_isWhole_1 : decode cX8_isWhole 1 = .ok (.getfield 126, 3) := by decide +kernel
theorem dX8_isWhole_4 : decode cX8_isWhole 4 = .ok (.aload_n 0, 1) := by decide +kernel
theorem dX8_isWhole_5 : decode cX8_isWhole 5 = .ok (.getfield 23, 3) := by decide +kernel
theorem dX8_isWhole_8 : decode cX8_isWhole 8 = .ok (.getfield 126, 3) := by decide +kernel
theorem dX8_isWhole_11 : decode cX8_isWhole 11 = .ok (.if_icmp .ne 7, 3) := by decide +kernel
theorem dX8_isWhole_14 : decode cX8_isWhole 14 = .ok (.iconst 1, 1) := by decide +kernel
theorem dX8_isWhole_15 : decode cX8_isWhole 15 = .ok (.goto 4, 3) := by decide +kernel
theorem dX8_isWhole_18 : decode cX8_isWhole 18 = .ok (.iconst 0, 1) := by decide +kernel
theorem dX8_isWhole_19 : decode cX8_isWhole 19 = .ok (.ireturn, 1) := by decide +kernel
set_option maxRecDepth 20000 in
theorem moX8_isWhole_19 {o : Int32 × Hp} {h : Hp} {t0 : Int32} (hE : sX8_isWhole_19 h  t0 = some o) : Le h o.2 := by
  obtain ⟨g_1, hE⟩ := gd_e hE
  exact le_some2 hE
set_option maxRecDepth 20000 in
theorem moX8_isWhole {o : Int32 × Hp} {h : Hp} {x0 : Nat} {x1 : Nat} (hE : sX8_isWhole h x0 x1 = some o) : Le h o.2 := by
  obtain ⟨r_1, er_1, hE⟩ := cl_e hE
  rcases br_e hE with ⟨_, hE⟩ | ⟨_, hE⟩
  · exact moX8_isWhole_19 hE
  · exact moX8_isWhole_19 hE
set_option maxRecDepth 20000 in
theorem bX8_isWhole_19 {p : Program} {l : Launch} {e : Env} {s : State} {m : MethodId} {args : Array Value} {below : List Frame} {meth : Method} {c : Code} {X : Ec} {h0 : Hp} {o : Int32 × Hp} (C : Cx X p s m args meth c RX8 cX8_isWhole 2 (some .boolean) "isWhole") {h : Hp} {t0 : Int32} {H : Heap} {locs : List Loc} (hkm : Km h0 h) (hW : Wx X h H) (hZ : va_S (aA (eB X)) s.heap H locs) (ls : Array Slot) (hl : lv_has ls 2 []) (hE : sX8_isWhole_19 h  t0 = some o) : W p l e (rm 0 0) s m args below meth c H locs 0 0 (MQ below (QI X h0 o.1 o.2) args s 0 0 (aA (eB X))) (F0 m 19 ls [.int t0]) := by
  obtain ⟨g_1, hE⟩ := gd_e hE
  exact x_iret C rfl (narB g_1) hW hZ hkm hE dX8_isWhole_19
set_option maxRecDepth 20000 in
theorem ct_X8_isWhole (l : Launch) (X : Ec) {h : Hp} {x0 : Nat} {x1 : Nat} {o : Int32 × Hp} (k_x0 : hK h x0 = 8) (k_x1 : hK h x1 = 9) (hE : sX8_isWhole h x0 x1 = some o) : MetI l yX8_isWhole cX8_isWhole 2 (some .boolean) 0 0 X [.ref x0, .ref x1] h o := by
  refine x_met (by decide) (Nat.le_of_ble_eq_true rfl) ?_
  intro p e s m below meth c ls C hl hW hZ
  have hl : lv_has ls 2 [(0, .ref x0), (1, .ref x1)] := hl
  have hkm : Km h h := Km.rf h
  refine lv_aload_n C.1 C.2.1 dX8_isWhole_0 rfl (lv_at hl 1 rfl) ?_
  refine gf_X8_126 C hW k_x1 dX8_isWhole_1 ?_
  refine lv_aload_n C.1 C.2.1 dX8_isWhole_4 rfl (lv_at hl 0 rfl) ?_
  obtain ⟨r_1, er_1, hE⟩ := cl_e hE
  refine gf_X8_23 C hW k_x0 er_1 dX8_isWhole_5 (fun k_r_1 => ?_)
  refine gf_X8_126 C hW k_r_1 dX8_isWhole_8 ?_
  refine lv_icmp_ne (tgt := 18) C.1 C.2.1 dX8_isWhole_11 (by decide) (fun c_2 => ?_) (fun c_2 => ?_)
  · have hE := br_n hE c_2
    refine lv_iconst (v := (0 : Int32)) C.1 C.2.1 dX8_isWhole_18 (by decide) ?_
    exact bX8_isWhole_19 C hkm hW hZ _ (lv_sub hl [] rfl) hE
  · have hE := br_p hE c_2
    refine lv_iconst (v := (1 : Int32)) C.1 C.2.1 dX8_isWhole_14 (by decide) ?_
    refine lv_goto (tgt := 19) C.1 C.2.1 dX8_isWhole_15 (by decide) ?_
    exact bX8_isWhole_19 C hkm hW hZ _ (lv_sub hl [] rfl) hE
set_option maxRecDepth 100000 in
theorem m_297 : Cond.fieldLink RX6 52 (TX3 5).1 (TX3 5).2.1 (TX3 5).2.2.1 ∈ W0 := w0_in (List.mem_append_right _ (List.mem_of_getElem? (i := 297) rfl)) rfl
section
variable {p : Program} {l : Launch} {e : Env} {R : Room} {s : State} {m : MethodId} {args : Array Value} {below : List Frame} {meth : Method} {c : Code} {H : Heap} {locs : List Loc} {cells slots : Nat} {Q : State → Prop}
variable {cc : ByteArray} {pc : Nat} {ls : Array Slot} {rest : List Value} {X : Ec} {h h1 : Hp} {nL : Nat} {rt : Option FieldType} {mn : String}
theorem gf_X6_12 {a r : Nat} (C : Cx X p s m args meth c RX6 cc nL rt mn) (hW : Wx X h H) (ha : hK h a = 6) (hr : hR h a 3 = some r) (hdg : decode cc pc = .ok (.getfield 12, 3)) (kk : hK h r = 3 → W p l e R s m args below meth c H locs cells slots Q (F0 m (pc + 3) ls (.ref r :: rest))) : W p l e R s m args below meth c H locs cells slots Q (F0 m pc ls (.ref a :: rest)) :=
  y_getr C hW ha i_X6 (by decide) rfl (by decide) m_426 rfl rfl hr hdg kk
theorem gf_X6_52 {a : Nat} (C : Cx X p s m args meth c RX6 cc nL rt mn) (hW : Wx X h H) (ha : hK h a = 3) (hdg : decode cc pc = .ok (.getfield 52, 3)) (kk : W p l e R s m args below meth c H locs cells slots Q (F0 m (pc + 3) ls (.int (hI h a 5) :: rest))) : W p l e R s m args below meth c H locs cells slots Q (F0 m pc ls (.ref a :: rest)) :=
  y_geti C hW ha i_X3 (by decide) rfl (by decide) m_297 rfl hdg kk
end
theorem dX6_takenIn_0 : decode cX6_takenIn 0 = .ok (.iload_n 1, 1) := by decide +kernel
theorem dX6_takenIn_1 : decode cX6_takenIn 1 = .ok (.bipush 16, 2) := by decide +kernel
theorem dX6_takenIn_3 : decode cX6_takenIn 3 = .ok (.ishr, 1) := by decide +kernel
theorem dX6_takenIn_4 : decode cX6_takenIn 4 = .ok (.bipush 15, 2) := by decide +kernel
theorem dX6_takenIn_6 : decode cX6_takenIn 6 = .ok (.iand, 1) := by decide +kernel
theorem dX6_takenIn_7 : decode cX6_takenIn 7 = .ok (.istore_n 2, 1) := by decide +kernel
theorem dX6_takenIn_8 : decode cX6_takenIn 8 = .ok (.iload_n 2, 1) := by decide +kernel
theorem dX6_takenIn_9 : decode cX6_takenIn 9 = .ok (.bipush 15, 2) := by decide +kernel
theorem dX6_takenIn_11 : decode cX6_takenIn 11 = .ok (.if_icmp .ne 7, 3) := by decide +kernel
theorem dX6_takenIn_14 : decode cX6_takenIn 14 = .ok (.iconst (-1), 1) := by decide +kernel
theorem dX6_takenIn_15 : decode cX6_takenIn 15 = .ok (.goto 16, 3) := by decide +kernel
theorem dX6_takenIn_18 : decode cX6_takenIn 18 = .ok (.iconst 2, 1) := by decide +kernel
theorem dX6_takenIn_19 : decode cX6_takenIn 19 = .ok (.iload_n 2, 1) := by decide +kernel
theorem dX6_takenIn_20 : decode cX6_takenIn 20 = .ok (.imul, 1) := by decide +kernel
theorem dX6_takenIn_21 : decode cX6_takenIn 21 = .ok (.iconst 1, 1) := by decide +kernel
theorem dX6_takenIn_22 : decode cX6_takenIn 22 = .ok (.iadd, 1) := by decide +kernel
theorem dX6_takenIn_23 : decode cX6_takenIn 23 = .ok (.aload_n 0, 1) := by decide +kernel
theorem dX6_takenIn_24 : decode cX6_takenIn 24 = .ok (.getfield 12, 3) := by decide +kernel
theorem dX6_takenIn_27 : decode cX6_takenIn 27 = .ok (.getfield 52, 3) := by decide +kernel
theorem dX6_takenIn_30 : decode cX6_takenIn 30 = .ok (.isub, 1) := by decide +kernel
theorem dX6_takenIn_31 : decode cX6_takenIn 31 = .ok (.ireturn, 1) := by decide +kernel
set_option maxRecDepth 20000 in
theorem moX6_takenIn_31 {o : Int32 × Hp} {h : Hp} {t0 : Int32} (hE : sX6_takenIn_31 h  t0 = some o) : Le h o.2 := by
  exact le_some2 hE
set_option maxRecDepth 20000 in
theorem moX6_takenIn {o : Int32 × Hp} {h : Hp} {x0 : Nat} {x1 : Int32} (hE : sX6_takenIn h x0 x1 = some o) : Le h o.2 := by
  obtain ⟨v_1, ev_1, hE⟩ := nm_e2 hE
  rcases br_e hE with ⟨_, hE⟩ | ⟨_, hE⟩
  · exact moX6_takenIn_31 hE
  · obtain ⟨r_3, er_3, hE⟩ := cl_e hE
    exact moX6_takenIn_31 hE
set_option maxRecDepth 20000 in
theorem bX6_takenIn_31 {p : Program} {l : Launch} {e : Env} {s : State} {m : MethodId} {args : Array Value} {below : List Frame} {meth : Method} {c : Code} {X : Ec} {h0 : Hp} {o : Int32 × Hp} (C : Cx X p s m args meth c RX6 cX6_takenIn 3 (some .int) "takenIn") {h : Hp} {t0 : Int32} {H : Heap} {locs : List Loc} (hkm : Km h0 h) (hW : Wx X h H) (hZ : va_S (aA (eB X)) s.heap H locs) (ls : Array Slot) (hl : lv_has ls 3 []) (hE : sX6_takenIn_31 h  t0 = some o) : W p l e (rm 0 0) s m args below meth c H locs 0 0 (MQ below (QI X h0 o.1 o.2) args s 0 0 (aA (eB X))) (F0 m 31 ls [.int t0]) := by
  exact x_iret C rfl rfl hW hZ hkm hE dX6_takenIn_31
set_option maxRecDepth 20000 in
theorem ct_X6_takenIn (l : Launch) (X : Ec) {h : Hp} {x0 : Nat} {x1 : Int32} {o : Int32 × Hp} (k_x0 : hK h x0 = 6) (hE : sX6_takenIn h x0 x1 = some o) : MetI l yX6_takenIn cX6_takenIn 3 (some .int) 0 0 X [.ref x0, .int x1] h o := by
  refine x_met (by decide) (Nat.le_of_ble_eq_true rfl) ?_
  intro p e s m below meth c ls C hl hW hZ
  have hl : lv_has ls 3 [(0, .ref x0), (1, .int x1)] := hl
  have hkm : Km h h := Km.rf h
  refine lv_iload_n C.1 C.2.1 dX6_takenIn_0 rfl (lv_at hl 1 rfl) ?_
  refine lv_bipush (v := (16 : Int32)) C.1 C.2.1 dX6_takenIn_1 (by decide) ?_
  refine lv_ishr C.1 C.2.1 dX6_takenIn_3 ?_
  refine lv_bipush (v := (15 : Int32)) C.1 C.2.1 dX6_takenIn_4 (by decide) ?_
  refine lv_iand C.1 C.2.1 dX6_takenIn_6 ?_
  obtain ⟨v_1, ev_1, hE⟩ := nm_e2 hE
  refine x_nmI ev_1 ?_
  refine lv_istore_n (lv' := [(2, .int v_1), (0, .ref x0), (1, .int x1)]) C.1 C.2.1 dX6_takenIn_7 rfl hl (by decide) rfl (fun ls hl => ?_)
  refine lv_iload_n C.1 C.2.1 dX6_takenIn_8 rfl (lv_at hl 0 rfl) ?_
  refine lv_bipush (v := (15 : Int32)) C.1 C.2.1 dX6_takenIn_9 (by decide) ?_
  refine lv_icmp_ne (tgt := 18) C.1 C.2.1 dX6_takenIn_11 (by decide) (fun c_2 => ?_) (fun c_2 => ?_)
  · have hE := br_n hE c_2
    refine lv_iconst (v := (2 : Int32)) C.1 C.2.1 dX6_takenIn_18 (by decide) ?_
    refine lv_iload_n C.1 C.2.1 dX6_takenIn_19 rfl (lv_at hl 0 rfl) ?_
    refine lv_imul C.1 C.2.1 dX6_takenIn_20 ?_
    refine lv_iconst (v := (1 : Int32)) C.1 C.2.1 dX6_takenIn_21 (by decide) ?_
    refine lv_iadd C.1 C.2.1 dX6_takenIn_22 ?_
    refine lv_aload_n C.1 C.2.1 dX6_takenIn_23 rfl (lv_at hl 1 rfl) ?_
    obtain ⟨r_3, er_3, hE⟩ := cl_e hE
    refine gf_X6_12 C hW k_x0 er_3 dX6_takenIn_24 (fun k_r_3 => ?_)
    refine gf_X6_52 C hW k_r_3 dX6_takenIn_27 ?_
    refine lv_isub C.1 C.2.1 dX6_takenIn_30 ?_
    exact bX6_takenIn_31 C hkm hW hZ _ (lv_sub hl [] rfl) hE
  · have hE := br_p hE c_2
    refine lv_iconst (v := (-1 : Int32)) C.1 C.2.1 dX6_takenIn_14 (by decide) ?_
    refine lv_goto (tgt := 31) C.1 C.2.1 dX6_takenIn_15 (by decide) ?_
    exact bX6_takenIn_31 C hkm hW hZ _ (lv_sub hl [] rfl) hE
set_option maxRecDepth 100000 in
theorem ms_83 : Cond.selects RX6 yX6_takenIn yX6_takenIn ∈ W0 := w0_in (List.mem_append_left _ (List.mem_of_getElem? (i := 83) rfl)) rfl
set_option maxRecDepth 100000 in
theorem m_12 : Cond.initialized RX6 ∈ W0 := w0_in (List.mem_append_right _ (List.mem_of_getElem? (i := 12) rfl)) rfl
set_option maxRecDepth 100000 in
theorem m_88 : Cond.fieldLink RX6 93 (TX1 4).1 (TX1 4).2.1 (TX1 4).2.2.1 ∈ W0 := w0_in (List.mem_append_right _ (List.mem_of_getElem? (i := 88) rfl)) rfl
set_option maxRecDepth 100000 in
theorem m_1525 : Cond.methodLink RX6 45 yX3_copyFrom ∈ W0 := w0_in (List.mem_append_right _ (List.mem_of_getElem? (i := 1525) rfl)) rfl
set_option maxRecDepth 100000 in
theorem m_1547 : Cond.methodLink RX6 135 yX6_takenIn ∈ W0 := w0_in (List.mem_append_right _ (List.mem_of_getElem? (i := 1547) rfl)) rfl
set_option maxRecDepth 100000 in
theorem m_1549 : Cond.instanceMethod yX6_takenIn ∈ W0 := w0_in (List.mem_append_right _ (List.mem_of_getElem? (i := 1549) rfl)) rfl
set_option maxRecDepth 100000 in
theorem m_1550 : Cond.code yX6_takenIn cX6_takenIn 3 (some .int) ∈ W0 := w0_in (List.mem_append_right _ (List.mem_of_getElem? (i := 1550) rfl)) rfl
set_option maxRecDepth 100000 in
theorem m_1551 : Cond.methodLink RX6 138 yX3_put ∈ W0 := w0_in (List.mem_append_right _ (List.mem_of_getElem? (i := 1551) rfl)) rfl
section
variable {p : Program} {l : Launch} {e : Env} {R : Room} {s : State} {m : MethodId} {args : Array Value} {below : List Frame} {meth : Method} {c : Code} {H : Heap} {locs : List Loc} {cells slots : Nat} {Q : State → Prop}
variable {cc : ByteArray} {pc : Nat} {ls : Array Slot} {rest : List Value} {X : Ec} {h h1 : Hp} {nL : Nat} {rt : Option FieldType} {mn : String}
theorem gf_X6_25 {a r : Nat} (C : Cx X p s m args meth c RX6 cc nL rt mn) (hW : Wx X h H) (ha : hK h a = 6) (hr : hR h a 0 = some r) (hdg : decode cc pc = .ok (.getfield 25, 3)) (kk : hK h r = 1 → W p l e R s m args below meth c H locs cells slots Q (F0 m (pc + 3) ls (.ref r :: rest))) : W p l e R s m args below meth c H locs cells slots Q (F0 m pc ls (.ref a :: rest)) :=
  y_getr C hW ha i_X6 (by decide) rfl (by decide) m_423 rfl rfl hr hdg kk
theorem gf_X6_93 {a : Nat} (C : Cx X p s m args meth c RX6 cc nL rt mn) (hW : Wx X h H) (ha : hK h a = 1) (hdg : decode cc pc = .ok (.getfield 93, 3)) (kk : W p l e R s m args below meth c H locs cells slots Q (F0 m (pc + 3) ls (.int (hI h a 4) :: rest))) : W p l e R s m args below meth c H locs cells slots Q (F0 m pc ls (.ref a :: rest)) :=
  y_geti C hW ha i_X1 (by decide) rfl (by decide) m_88 rfl hdg kk
end
theorem cw_X6_45 : cwd RX6 45 yX3_copyFrom cX3_copyFrom 3 none false 1 := ⟨m_1232, m_1525, m_8, ⟨m_1230, m_1231⟩, by decide, by decide, by decide +kernel⟩
theorem cw_X6_135 : cwd RX6 135 yX6_takenIn cX6_takenIn 3 (some .int) false 1 := ⟨m_1550, m_1547, m_12, ⟨m_1549, ms_83⟩, by decide, by decide, by decide +kernel⟩
theorem cw_X6_138 : cwd RX6 138 yX3_put cX3_put 7 none false 3 := ⟨m_964, m_1551, m_8, ⟨m_962, m_963⟩, by decide, by decide, by decide +kernel⟩
theorem dX6_lay_0 : decode cX6_lay 0 = .ok (.aload_n 1, 1) := by decide +kernel
theorem dX6_lay_1 : decode cX6_lay 1 = .ok (.aload_n 0, 1) := by decide +kernel
theorem dX6_lay_2 : decode cX6_lay 2 = .ok (.getfield 12, 3) := by decide +kernel
theorem dX6_lay_5 : decode cX6_lay 5 = .ok (.invokevirtual 45, 3) := by decide +kernel
theorem dX6_lay_8 : decode cX6_lay 8 = .ok (.aload_n 1, 1) := by decide +kernel
theorem dX6_lay_9 : decode cX6_lay 9 = .ok (.iload_n 2, 1) := by decide +kernel
theorem dX6_lay_10 : decode cX6_lay 10 = .ok (.bipush 6, 2) := by decide +kernel
theorem dX6_lay_12 : decode cX6_lay 12 = .ok (.ishr, 1) := by decide +kernel
theorem dX6_lay_13 : decode cX6_lay 13 = .ok (.bipush 63, 2) := by decide +kernel
theorem dX6_lay_15 : decode cX6_lay 15 = .ok (.iand, 1) := by decide +kernel
theorem dX6_lay_16 : decode cX6_lay 16 = .ok (.aload_n 0, 1) := by decide +kernel
theorem dX6_lay_17 : decode cX6_lay 17 = .ok (.iload_n 2, 1) := by decide +kernel
theorem dX6_lay_18 : decode cX6_lay 18 = .ok (.invokevirtual 135, 3) := by decide +kernel
theorem dX6_lay_21 : decode cX6_lay 21 = .ok (.aload_n 0, 1) := by decide +kernel
theorem dX6_lay_22 : decode cX6_lay 22 = .ok (.getfield 25, 3) := by decide +kernel
theorem dX6_lay_25 : decode cX6_lay 25 = .ok (.getfield 93, 3) := by decide +kernel
theorem dX6_lay_28 : decode cX6_lay 28 = .ok (.invokevirtual 138, 3) := by decide +kernel
theorem dX6_lay_31 : decode cX6_lay 31 = .ok (.aload_n 1, 1) := by decide +kernel
theorem dX6_lay_32 : decode cX6_lay 32 = .ok (.iload_n 2, 1) := by decide +kernel
theorem dX6_lay_33 : decode cX6_lay 33 = .ok (.bipush 63, 2) := by decide +kernel
theorem dX6_lay_35 : decode cX6_lay 35 = .ok (.iand, 1) := by decide +kernel
theorem dX6_lay_36 : decode cX6_lay 36 = .ok (.iconst 2, 1) := by decide +kernel
theorem dX6_lay_37 : decode cX6_lay 37 = .ok (.iload_n 2, 1) := by decide +kernel
theorem dX6_lay_38 : decode cX6_lay 38 = .ok (.bipush 12, 2) := by decide +kernel
theorem dX6_lay_40 : decode cX6_lay 40 = .ok (.ishr, 1) := by decide +kernel
theorem dX6_lay_41 : decode cX6_lay 41 = .ok (.bipush 15, 2) := by decide +kernel
theorem dX6_lay_43 : decode cX6_lay 43 = .ok (.iand, 1) := by decide +kernel
theorem dX6_lay_44 : decode cX6_lay 44 = .ok (.imul, 1) := by decide +kernel
theorem dX6_lay_45 : decode cX6_lay 45 = .ok (.aload_n 0, 1) := by decide +kernel
theorem dX6_lay_46 : decode cX6_lay 46 = .ok (.getfield 12, 3) := by decide +kernel
theorem dX6_lay_49 : decode cX6_lay 49 = .ok (.getfield 52, 3) := by decide +kernel
theorem dX6_lay_52 : decode cX6_lay 52 = .ok (.iadd, 1) := by decide +kernel
theorem dX6_lay_53 : decode cX6_lay 53 = .ok (.aload_n 0, 1) := by decide +kernel
theorem dX6_lay_54 : decode cX6_lay 54 = .ok (.getfield 25, 3) := by decide +kernel
theorem dX6_lay_57 : decode cX6_lay 57 = .ok (.getfield 93, 3) := by decide +kernel
theorem dX6_lay_60 : decode cX6_lay 60 = .ok (.invokevirtual 138, 3) := by decide +kernel
theorem dX6_lay_63 : decode cX6_lay 63 = .ok (.return_, 1) := by decide +kernel
set_option maxRecDepth 20000 in
theorem moX6_lay {o : Hp} {F : Nat} {h : Hp} {x0 : Nat} {x1 : Nat} {x2 : Int32} (hE : sX6_lay F h x0 x1 x2 = some o) : Le h o := by
  obtain ⟨r_1, er_1, hE⟩ := cl_e hE
  obtain ⟨o_2, eo_2, hE⟩ := cl_e hE
  refine (moX3_copyFrom eo_2).tr ?_
  obtain ⟨o_3, eo_3, hE⟩ := cl_e hE
  refine (moX6_takenIn eo_3).tr ?_
  obtain ⟨r_4, er_4, hE⟩ := cl_e hE
  obtain ⟨o_5, eo_5, hE⟩ := cl_e hE
  refine (moX3_put eo_5).tr ?_
  obtain ⟨r_6, er_6, hE⟩ := cl_e hE
  obtain ⟨r_7, er_7, hE⟩ := cl_e hE
  obtain ⟨o_8, eo_8, hE⟩ := cl_e hE
  refine (moX3_put eo_8).tr ?_
  exact le_some1 hE
set_option maxRecDepth 20000 in
theorem ct_X6_lay (l : Launch) (X : Ec) (F : Nat) {h : Hp} {x0 : Nat} {x1 : Nat} {x2 : Int32} {o : Hp} (k_x0 : hK h x0 = 6) (k_x1 : hK h x1 = 3) (hE : sX6_lay F h x0 x1 x2 = some o) : MetV l yX6_lay cX6_lay 3 none 2 86 X [.ref x0, .ref x1, .int x2] h o := by
  refine x_met (by decide) (Nat.le_of_ble_eq_true rfl) ?_
  intro p e s m below meth c ls C hl hW hZ
  have hl : lv_has ls 3 [(0, .ref x0), (1, .ref x1), (2, .int x2)] := hl
  have hkm : Km h h := Km.rf h
  refine lv_aload_n C.1 C.2.1 dX6_lay_0 rfl (lv_at hl 1 rfl) ?_
  refine lv_aload_n C.1 C.2.1 dX6_lay_1 rfl (lv_at hl 0 rfl) ?_
  obtain ⟨r_1, er_1, hE⟩ := cl_e hE
  refine gf_X6_12 C hW k_x0 er_1 dX6_lay_2 (fun k_r_1 => ?_)
  obtain ⟨o_2, eo_2, hE⟩ := cl_e hE
  refine x_kV (o := o_2) (z_runV (As := [.ref r_1]) (rest := []) C (ct_X3_copyFrom l X F k_x1 k_r_1 eo_2) cw_X6_45 hW hZ k_x1 (by decide) rfl rfl rfl hl.1 (Nat.le_of_ble_eq_true rfl) rfl dX6_lay_5 ⟨Nat.le_of_ble_eq_true rfl, Nat.le_of_ble_eq_true rfl⟩ ⟨Nat.le_refl _, Nat.le_refl _⟩) hZ (fun _ _ hW km hZ => ?_)
  replace hkm := hkm.tr km
  replace k_x0 := km.at k_x0 (by decide)
  replace k_x1 := km.at k_x1 (by decide)
  refine lv_aload_n C.1 C.2.1 dX6_lay_8 rfl (lv_at hl 1 rfl) ?_
  refine lv_iload_n C.1 C.2.1 dX6_lay_9 rfl (lv_at hl 2 rfl) ?_
  refine lv_bipush (v := (6 : Int32)) C.1 C.2.1 dX6_lay_10 (by decide) ?_
  refine lv_ishr C.1 C.2.1 dX6_lay_12 ?_
  refine lv_bipush (v := (63 : Int32)) C.1 C.2.1 dX6_lay_13 (by decide) ?_
  refine lv_iand C.1 C.2.1 dX6_lay_15 ?_
  refine lv_aload_n C.1 C.2.1 dX6_lay_16 rfl (lv_at hl 0 rfl) ?_
  refine lv_iload_n C.1 C.2.1 dX6_lay_17 rfl (lv_at hl 2 rfl) ?_
  obtain ⟨o_3, eo_3, hE⟩ := cl_e hE
  refine x_kI (o := o_3) (z_runV (As := [.int x2]) (rest := [.int ((x2 >>> ((6 : Int32) &&& 31)) &&& (63 : Int32)), .ref x1]) C (ct_X6_takenIn l X k_x0 eo_3) cw_X6_135 hW hZ k_x0 (by decide) rfl rfl rfl hl.1 (Nat.le_of_ble_eq_true rfl) rfl dX6_lay_18 ⟨Nat.le_of_ble_eq_true rfl, Nat.le_of_ble_eq_true rfl⟩ ⟨Nat.le_refl _, Nat.le_refl _⟩) hZ (fun _ _ hW km hZ => ?_)
  replace hkm := hkm.tr km
  replace k_x0 := km.at k_x0 (by decide)
  replace k_x1 := km.at k_x1 (by decide)
  refine lv_aload_n C.1 C.2.1 dX6_lay_21 rfl (lv_at hl 0 rfl) ?_
  obtain ⟨r_4, er_4, hE⟩ := cl_e hE
  refine gf_X6_25 C hW k_x0 er_4 dX6_lay_22 (fun k_r_4 => ?_)
  refine gf_X6_93 C hW k_r_4 dX6_lay_25 ?_
  obtain ⟨o_5, eo_5, hE⟩ := cl_e hE
  refine x_kV (o := o_5) (z_runV (As := [.int ((x2 >>> ((6 : Int32) &&& 31)) &&& (63 : Int32)), .int o_3.1, .int (hI o_3.2 r_4 4)]) (rest := []) C (ct_X3_put l X k_x1 eo_5) cw_X6_138 hW hZ k_x1 (by decide) rfl rfl rfl hl.1 (Nat.le_of_ble_eq_true rfl) rfl dX6_lay_28 ⟨Nat.le_of_ble_eq_true rfl, Nat.le_of_ble_eq_true rfl⟩ ⟨Nat.le_refl _, Nat.le_refl _⟩) hZ (fun _ _ hW km hZ => ?_)
  replace hkm := hkm.tr km
  replace k_x0 := km.at k_x0 (by decide)
  replace k_x1 := km.at k_x1 (by decide)
  refine lv_aload_n C.1 C.2.1 dX6_lay_31 rfl (lv_at hl 1 rfl) ?_
  refine lv_iload_n C.1 C.2.1 dX6_lay_32 rfl (lv_at hl 2 rfl) ?_
  refine lv_bipush (v := (63 : Int32)) C.1 C.2.1 dX6_lay_33 (by decide) ?_
  refine lv_iand C.1 C.2.1 dX6_lay_35 ?_
  refine lv_iconst (v := (2 : Int32)) C.1 C.2.1 dX6_lay_36 (by decide) ?_
  refine lv_iload_n C.1 C.2.1 dX6_lay_37 rfl (lv_at hl 2 rfl) ?_
  refine lv_bipush (v := (12 : Int32)) C.1 C.2.1 dX6_lay_38 (by decide) ?_
  refine lv_ishr C.1 C.2.1 dX6_lay_40 ?_
  refine lv_bipush (v := (15 : Int32)) C.1 C.2.1 dX6_lay_41 (by decide) ?_
  refine lv_iand C.1 C.2.1 dX6_lay_43 ?_
  refine lv_imul C.1 C.2.1 dX6_lay_44 ?_
  refine lv_aload_n C.1 C.2.1 dX6_lay_45 rfl (lv_at hl 0 rfl) ?_
  obtain ⟨r_6, er_6, hE⟩ := cl_e hE
  refine gf_X6_12 C hW k_x0 er_6 dX6_lay_46 (fun k_r_6 => ?_)
  refine gf_X6_52 C hW k_r_6 dX6_lay_49 ?_
  refine lv_iadd C.1 C.2.1 dX6_lay_52 ?_
  refine lv_aload_n C.1 C.2.1 dX6_lay_53 rfl (lv_at hl 0 rfl) ?_
  obtain ⟨r_7, er_7, hE⟩ := cl_e hE
  refine gf_X6_25 C hW k_x0 er_7 dX6_lay_54 (fun k_r_7 => ?_)
  refine gf_X6_93 C hW k_r_7 dX6_lay_57 ?_
  obtain ⟨o_8, eo_8, hE⟩ := cl_e hE
  refine x_kV (o := o_8) (z_runV (As := [.int (x2 &&& (63 : Int32)), .int (((2 : Int32) * ((x2 >>> ((12 : Int32) &&& 31)) &&& (15 : Int32))) + (hI o_5 r_6 5)), .int (hI o_5 r_7 4)]) (rest := []) C (ct_X3_put l X k_x1 eo_8) cw_X6_138 hW hZ k_x1 (by decide) rfl rfl rfl hl.1 (Nat.le_of_ble_eq_true rfl) rfl dX6_lay_60 ⟨Nat.le_of_ble_eq_true rfl, Nat.le_of_ble_eq_true rfl⟩ ⟨Nat.le_refl _, Nat.le_refl _⟩) hZ (fun _ _ hW km hZ => ?_)
  replace hkm := hkm.tr km
  replace k_x0 := km.at k_x0 (by decide)
  replace k_x1 := km.at k_x1 (by decide)
  exact x_vret C rfl hW hZ hkm hE dX6_lay_63
set_option maxRecDepth 100000 in
theorem m_347 : Cond.fieldLink RX6 124 (TX5 2).1 (TX5 2).2.1 (TX5 2).2.2.1 ∈ W0 := w0_in (List.mem_append_right _ (List.mem_of_getElem? (i := 347) rfl)) rfl
set_option maxRecDepth 100000 in
theorem m_1013 : Cond.instanceMethod yX5_faultOf ∈ W0 := w0_in (List.mem_append_right _ (List.mem_of_getElem? (i := 1013) rfl)) rfl
set_option maxRecDepth 100000 in
theorem m_1014 : Cond.selects RX5 yX5_faultOf yX5_faultOf ∈ W0 := w0_in (List.mem_append_right _ (List.mem_of_getElem? (i := 1014) rfl)) rfl
set_option maxRecDepth 100000 in
theorem m_1015 : Cond.code yX5_faultOf cX5_faultOf 2 (some .int) ∈ W0 := w0_in (List.mem_append_right _ (List.mem_of_getElem? (i := 1015) rfl)) rfl
set_option maxRecDepth 100000 in
theorem m_1528 : Cond.methodLink RX6 61 yX1_has ∈ W0 := w0_in (List.mem_append_right _ (List.mem_of_getElem? (i := 1528) rfl)) rfl
set_option maxRecDepth 100000 in
theorem m_1556 : Cond.methodLink RX6 117 yX5_faultOf ∈ W0 := w0_in (List.mem_append_right _ (List.mem_of_getElem? (i := 1556) rfl)) rfl
set_option maxRecDepth 100000 in
theorem m_1557 : Cond.methodLink RX6 121 yX5_earlyEnd ∈ W0 := w0_in (List.mem_append_right _ (List.mem_of_getElem? (i := 1557) rfl)) rfl
set_option maxRecDepth 100000 in
theorem m_1558 : Cond.methodLink RX6 127 yX5_collect ∈ W0 := w0_in (List.mem_append_right _ (List.mem_of_getElem? (i := 1558) rfl)) rfl
set_option maxRecDepth 100000 in
theorem m_1559 : Cond.methodLink RX6 131 yX5_takenBy ∈ W0 := w0_in (List.mem_append_right _ (List.mem_of_getElem? (i := 1559) rfl)) rfl
section
variable {p : Program} {l : Launch} {e : Env} {R : Room} {s : State} {m : MethodId} {args : Array Value} {below : List Frame} {meth : Method} {c : Code} {H : Heap} {locs : List Loc} {cells slots : Nat} {Q : State → Prop}
variable {cc : ByteArray} {pc : Nat} {ls : Array Slot} {rest : List Value} {X : Ec} {h h1 : Hp} {nL : Nat} {rt : Option FieldType} {mn : String}
theorem gf_X6_33 {a r : Nat} (C : Cx X p s m args meth c RX6 cc nL rt mn) (hW : Wx X h H) (ha : hK h a = 6) (hr : hR h a 2 = some r) (hdg : decode cc pc = .ok (.getfield 33, 3)) (kk : hK h r = 5 → W p l e R s m args below meth c H locs cells slots Q (F0 m (pc + 3) ls (.ref r :: rest))) : W p l e R s m args below meth c H locs cells slots Q (F0 m pc ls (.ref a :: rest)) :=
  y_getr C hW ha i_X6 (by decide) rfl (by decide) m_425 rfl rfl hr hdg kk
theorem gf_X6_18 {a r : Nat} (C : Cx X p s m args meth c RX6 cc nL rt mn) (hW : Wx X h H) (ha : hK h a = 6) (hr : hR h a 4 = some r) (hdg : decode cc pc = .ok (.getfield 18, 3)) (kk : hK h r = 3 → W p l e R s m args below meth c H locs cells slots Q (F0 m (pc + 3) ls (.ref r :: rest))) : W p l e R s m args below meth c H locs cells slots Q (F0 m pc ls (.ref a :: rest)) :=
  y_getr C hW ha i_X6 (by decide) rfl (by decide) m_427 rfl rfl hr hdg kk
theorem gf_X6_124 {a r : Nat} (C : Cx X p s m args meth c RX6 cc nL rt mn) (hW : Wx X h H) (ha : hK h a = 5) (hr : hR h a 2 = some r) (hdg : decode cc pc = .ok (.getfield 124, 3)) (kk : hK h r = 17 → W p l e R s m args below meth c H locs cells slots Q (F0 m (pc + 3) ls (.ref r :: rest))) : W p l e R s m args below meth c H locs cells slots Q (F0 m pc ls (.ref a :: rest)) :=
  y_getr C hW ha i_X5 (by decide) rfl (by decide) m_347 rfl rfl hr hdg kk
end
theorem cw_X6_117 : cwd RX6 117 yX5_faultOf cX5_faultOf 2 (some .int) false 1 := ⟨m_1015, m_1556, m_7, ⟨m_1013, m_1014⟩, by decide, by decide, by decide +kernel⟩
theorem cw_X6_121 : cwd RX6 121 yX5_earlyEnd cX5_earlyEnd 2 (some .int) false 1 := ⟨m_1156, m_1557, m_7, ⟨m_1154, m_1155⟩, by decide, by decide, by decide +kernel⟩
theorem cw_X6_61 : cwd RX6 61 yX1_has cX1_has 2 (some .boolean) false 1 := ⟨m_1029, m_1528, m_4, ⟨m_1027, m_1028⟩, by decide, by decide, by decide +kernel⟩
theorem cw_X6_127 : cwd RX6 127 yX5_collect cX5_collect 9 (some .int) false 3 := ⟨m_1140, m_1558, m_7, ⟨m_1138, m_1139⟩, by decide, by decide, by decide +kernel⟩
theorem cw_X6_131 : cwd RX6 131 yX5_takenBy cX5_takenBy 2 (some .int) true 1 := ⟨m_1189, m_1559, m_7, m_1188, by decide, by decide, by decide +kernel⟩
theorem dX6_isBefore_0 : decode cX6_isBefore 0 = .ok (.aload_n 0, 1) := by decide +kernel
theorem dX6_isBefore_1 : decode cX6_isBefore 1 = .ok (.getfield 33, 3) := by decide +kernel
theorem dX6_isBefore_4 : decode cX6_isBefore 4 = .ok (.aload_n 0, 1) := by decide +kernel
theorem dX6_isBefore_5 : decode cX6_isBefore 5 = .ok (.getfield 18, 3) := by decide +kernel
theorem dX6_isBefore_8 : decode cX6_isBefore 8 = .ok (.invokevirtual 117, 3) := by decide +kernel
theorem dX6_isBefore_11 : decode cX6_isBefore 11 = .ok (.ifCond .ne 17, 3) := by decide +kernel
theorem dX6_isBefore_14 : decode cX6_isBefore 14 = .ok (.aload_n 0, 1) := by decide +kernel
theorem dX6_isBefore_15 : decode cX6_isBefore 15 = .ok (.getfield 33, 3) := by decide +kernel
theorem dX6_isBefore_18 : decode cX6_isBefore 18 = .ok (.aload_n 0, 1) := by decide +kernel
theorem dX6_isBefore_19 : decode cX6_isBefore 19 = .ok (.getfield 18, 3) := by decide +kernel
theorem dX6_isBefore_22 : decode cX6_isBefore 22 = .ok (.invokevirtual 121, 3) := by decide +kernel
theorem dX6_isBefore_25 : decode cX6_isBefore 25 = .ok (.ifCond .eq 5, 3) := by decide +kernel
theorem dX6_isBefore_28 : decode cX6_isBefore 28 = .ok (.iconst 0, 1) := by decide +kernel
theorem dX6_isBefore_29 : decode cX6_isBefore 29 = .ok (.ireturn, 1) := by decide +kernel
theorem dX6_isBefore_30 : decode cX6_isBefore 30 = .ok (.iload_n 1, 1) := by decide +kernel
theorem dX6_isBefore_31 : decode cX6_isBefore 31 = .ok (.iconst (-1), 1) := by decide +kernel
theorem dX6_isBefore_32 : decode cX6_isBefore 32 = .ok (.if_icmp .ne 14, 3) := by decide +kernel
theorem dX6_isBefore_35 : decode cX6_isBefore 35 = .ok (.aload_n 0, 1) := by decide +kernel
theorem dX6_isBefore_36 : decode cX6_isBefore 36 = .ok (.getfield 25, 3) := by decide +kernel
theorem dX6_isBefore_39 : decode cX6_isBefore 39 = .ok (.iconst 2, 1) := by decide +kernel
theorem dX6_isBefore_40 : decode cX6_isBefore 40 = .ok (.invokevirtual 61, 3) := by decide +kernel
theorem dX6_isBefore_43 : decode cX6_isBefore 43 = .ok (.ifCond .ne 5, 3) := by decide +kernel
theorem dX6_isBefore_46 : decode cX6_isBefore 46 = .ok (.iconst 1, 1) := by decide +kernel
theorem dX6_isBefore_47 : decode cX6_isBefore 47 = .ok (.ireturn, 1) := by decide +kernel
theorem dX6_isBefore_48 : decode cX6_isBefore 48 = .ok (.aload_n 0, 1) := by decide +kernel
theorem dX6_isBefore_49 : decode cX6_isBefore 49 = .ok (.getfield 33, 3) := by decide +kernel
theorem dX6_isBefore_52 : decode cX6_isBefore 52 = .ok (.aload_n 0, 1) := by decide +kernel
theorem dX6_isBefore_53 : decode cX6_isBefore 53 = .ok (.getfield 18, 3) := by decide +kernel
theorem dX6_isBefore_56 : decode cX6_isBefore 56 = .ok (.aload_n 0, 1) := by decide +kernel
theorem dX6_isBefore_57 : decode cX6_isBefore 57 = .ok (.getfield 33, 3) := by decide +kernel
theorem dX6_isBefore_60 : decode cX6_isBefore 60 = .ok (.getfield 124, 3) := by decide +kernel
theorem dX6_isBefore_63 : decode cX6_isBefore 63 = .ok (.sipush 4096, 3) := by decide +kernel
theorem dX6_isBefore_66 : decode cX6_isBefore 66 = .ok (.invokevirtual 127, 3) := by decide +kernel
theorem dX6_isBefore_69 : decode cX6_isBefore 69 = .ok (.istore_n 2, 1) := by decide +kernel
theorem dX6_isBefore_70 : decode cX6_isBefore 70 = .ok (.iload_n 2, 1) := by decide +kernel
theorem dX6_isBefore_71 : decode cX6_isBefore 71 = .ok (.ifCond .le 23, 3) := by decide +kernel
theorem dX6_isBefore_74 : decode cX6_isBefore 74 = .ok (.aload_n 0, 1) := by decide +kernel
theorem dX6_isBefore_75 : decode cX6_isBefore 75 = .ok (.getfield 33, 3) := by decide +kernel
theorem dX6_isBefore_78 : decode cX6_isBefore 78 = .ok (.getfield 124, 3) := by decide +kernel
theorem dX6_isBefore_81 : decode cX6_isBefore 81 = .ok (.iconst 0, 1) := by decide +kernel
theorem dX6_isBefore_82 : decode cX6_isBefore 82 = .ok (.iaload, 1) := by decide +kernel
theorem dX6_isBefore_83 : decode cX6_isBefore 83 = .ok (.invokestatic 131, 3) := by decide +kernel
theorem dX6_isBefore_86 : decode cX6_isBefore 86 = .ok (.iconst (-1), 1) := by decide +kernel
theorem dX6_isBefore_87 : decode cX6_isBefore 87 = .ok (.if_icmp .ne 7, 3) := by decide +kernel
theorem dX6_isBefore_90 : decode cX6_isBefore 90 = .ok (.iconst 1, 1) := by decide +kernel
theorem dX6_isBefore_91 : decode cX6_isBefore 91 = .ok (.goto 4, 3) := by decide +kernel
theorem dX6_isBefore_94 : decode cX6_isBefore 94 = .ok (.iconst 0, 1) := by decide +kernel
theorem dX6_isBefore_95 : decode cX6_isBefore 95 = .ok (.ireturn, 1) := by decide +kernel
set_option maxRecDepth 20000 in
theorem moX6_isBefore_28 {o : Int32 × Hp} {F : Nat} {h : Hp} (hE : sX6_isBefore_28 F h  = some o) : Le h o.2 := by
  exact le_some2 hE
set_option maxRecDepth 20000 in
theorem moX6_isBefore_46 {o : Int32 × Hp} {F : Nat} {h : Hp} (hE : sX6_isBefore_46 F h  = some o) : Le h o.2 := by
  exact le_some2 hE
set_option maxRecDepth 20000 in
theorem moX6_isBefore_95 {o : Int32 × Hp} {F : Nat} {h : Hp} {t0 : Int32} (hE : sX6_isBefore_95 F h  t0 = some o) : Le h o.2 := by
  obtain ⟨g_1, hE⟩ := gd_e hE
  exact le_some2 hE
set_option maxRecDepth 20000 in
theorem moX6_isBefore_94 {o : Int32 × Hp} {F : Nat} {h : Hp} (hE : sX6_isBefore_94 F h  = some o) : Le h o.2 := by
  exact moX6_isBefore_95 hE
set_option maxRecDepth 20000 in
theorem moX6_isBefore {o : Int32 × Hp} {F : Nat} {h : Hp} {x0 : Nat} {x1 : Int32} (hE : sX6_isBefore F h x0 x1 = some o) : Le h o.2 := by
  obtain ⟨r_1, er_1, hE⟩ := cl_e hE
  obtain ⟨r_2, er_2, hE⟩ := cl_e hE
  obtain ⟨o_3, eo_3, hE⟩ := cl_e hE
  refine (moX5_faultOf eo_3).tr ?_
  rcases br_e hE with ⟨_, hE⟩ | ⟨_, hE⟩
  · obtain ⟨r_5, er_5, hE⟩ := cl_e hE
    obtain ⟨r_6, er_6, hE⟩ := cl_e hE
    obtain ⟨o_7, eo_7, hE⟩ := cl_e hE
    refine (moX5_earlyEnd eo_7).tr ?_
    rcases br_e hE with ⟨_, hE⟩ | ⟨_, hE⟩
    · rcases br_e hE with ⟨_, hE⟩ | ⟨_, hE⟩
      · obtain ⟨r_10, er_10, hE⟩ := cl_e hE
        obtain ⟨o_11, eo_11, hE⟩ := cl_e hE
        refine (moX1_has eo_11).tr ?_
        rcases br_e hE with ⟨_, hE⟩ | ⟨_, hE⟩
        · exact moX6_isBefore_46 hE
        · obtain ⟨r_13, er_13, hE⟩ := cl_e hE
          obtain ⟨r_14, er_14, hE⟩ := cl_e hE
          obtain ⟨r_15, er_15, hE⟩ := cl_e hE
          obtain ⟨r_16, er_16, hE⟩ := cl_e hE
          obtain ⟨o_17, eo_17, hE⟩ := cl_e hE
          refine (moX5_collect eo_17).tr ?_
          rcases br_e hE with ⟨_, hE⟩ | ⟨_, hE⟩
          · exact moX6_isBefore_94 hE
          · obtain ⟨r_19, er_19, hE⟩ := cl_e hE
            obtain ⟨r_20, er_20, hE⟩ := cl_e hE
            obtain ⟨g_21, hE⟩ := gd_e hE
            obtain ⟨o_22, eo_22, hE⟩ := cl_e hE
            refine (moX5_takenBy eo_22).tr ?_
            rcases br_e hE with ⟨_, hE⟩ | ⟨_, hE⟩
            · exact moX6_isBefore_95 hE
            · exact moX6_isBefore_94 hE
      · exact moX6_isBefore_46 hE
    · exact moX6_isBefore_28 hE
  · exact moX6_isBefore_28 hE
set_option maxRecDepth 20000 in
theorem bX6_isBefore_28 {p : Program} {l : Launch} {e : Env} {s : State} {m : MethodId} {args : Array Value} {below : List Frame} {meth : Method} {c : Code} {X : Ec} {h0 : Hp} {o : Int32 × Hp} {F : Nat} (C : Cx X p s m args meth c RX6 cX6_isBefore 3 (some .boolean) "isBefore") {h : Hp} {H : Heap} {locs : List Loc} (hkm : Km h0 h) (hW : Wx X h H) (hZ : va_S (aA (eB X)) s.heap H locs) (ls : Array Slot) (hl : lv_has ls 3 []) (hE : sX6_isBefore_28 F h  = some o) : W p l e (rm 4 139) s m args below meth c H locs 0 0 (MQ below (QI X h0 o.1 o.2) args s 0 0 (aA (eB X))) (F0 m 28 ls []) := by
  refine lv_iconst (v := (0 : Int32)) C.1 C.2.1 dX6_isBefore_28 (by decide) ?_
  exact x_iret C rfl (by decide) hW hZ hkm hE dX6_isBefore_29
set_option maxRecDepth 20000 in
theorem bX6_isBefore_46 {p : Program} {l : Launch} {e : Env} {s : State} {m : MethodId} {args : Array Value} {below : List Frame} {meth : Method} {c : Code} {X : Ec} {h0 : Hp} {o : Int32 × Hp} {F : Nat} (C : Cx X p s m args meth c RX6 cX6_isBefore 3 (some .boolean) "isBefore") {h : Hp} {H : Heap} {locs : List Loc} (hkm : Km h0 h) (hW : Wx X h H) (hZ : va_S (aA (eB X)) s.heap H locs) (ls : Array Slot) (hl : lv_has ls 3 []) (hE : sX6_isBefore_46 F h  = some o) : W p l e (rm 4 139) s m args below meth c H locs 0 0 (MQ below (QI X h0 o.1 o.2) args s 0 0 (aA (eB X))) (F0 m 46 ls []) := by
  refine lv_iconst (v := (1 : Int32)) C.1 C.2.1 dX6_isBefore_46 (by decide) ?_
  exact x_iret C rfl (by decide) hW hZ hkm hE dX6_isBefore_47
set_option maxRecDepth 20000 in
theorem bX6_isBefore_95 {p : Program} {l : Launch} {e : Env} {s : State} {m : MethodId} {args : Array Value} {below : List Frame} {meth : Method} {c : Code} {X : Ec} {h0 : Hp} {o : Int32 × Hp} {F : Nat} (C : Cx X p s m args meth c RX6 cX6_isBefore 3 (some .boolean) "isBefore") {h : Hp} {t0 : Int32} {H : Heap} {locs : List Loc} (hkm : Km h0 h) (hW : Wx X h H) (hZ : va_S (aA (eB X)) s.heap H locs) (ls : Array Slot) (hl : lv_has ls 3 []) (hE : sX6_isBefore_95 F h  t0 = some o) : W p l e (rm 4 139) s m args below meth c H locs 0 0 (MQ below (QI X h0 o.1 o.2) args s 0 0 (aA (eB X))) (F0 m 95 ls [.int t0]) := by
  obtain ⟨g_1, hE⟩ := gd_e hE
  exact x_iret C rfl (narB g_1) hW hZ hkm hE dX6_isBefore_95
set_option maxRecDepth 20000 in
theorem bX6_isBefore_94 {p : Program} {l : Launch} {e : Env} {s : State} {m : MethodId} {args : Array Value} {below : List Frame} {meth : Method} {c : Code} {X : Ec} {h0 : Hp} {o : Int32 × Hp} {F : Nat} (C : Cx X p s m args meth c RX6 cX6_isBefore 3 (some .boolean) "isBefore") {h : Hp} {H : Heap} {locs : List Loc} (hkm : Km h0 h) (hW : Wx X h H) (hZ : va_S (aA (eB X)) s.heap H locs) (ls : Array Slot) (hl : lv_has ls 3 []) (hE : sX6_isBefore_94 F h  = some o) : W p l e (rm 4 139) s m args below meth c H locs 0 0 (MQ below (QI X h0 o.1 o.2) args s 0 0 (aA (eB X))) (F0 m 94 ls []) := by
  refine lv_iconst (v := (0 : Int32)) C.1 C.2.1 dX6_isBefore_94 (by decide) ?_
  exact bX6_isBefore_95 C hkm hW hZ _ (lv_sub hl [] rfl) hE
set_option maxRecDepth 20000 in
theorem ct_X6_isBefore (l : Launch) (X : Ec) (F : Nat) {h : Hp} {x0 : Nat} {x1 : Int32} {o : Int32 × Hp} (k_x0 : hK h x0 = 6) (hE : sX6_isBefore F h x0 x1 = some o) : MetI l yX6_isBefore cX6_isBefore 3 (some .boolean) 4 139 X [.ref x0, .int x1] h o := by
  refine x_met (by decide) (Nat.le_of_ble_eq_true rfl) ?_
  intro p e s m below meth c ls C hl hW hZ
  have hl : lv_has ls 3 [(0, .ref x0), (1, .int x1)] := hl
  have hkm : Km h h := Km.rf h
  refine lv_aload_n C.1 C.2.1 dX6_isBefore_0 rfl (lv_at hl 0 rfl) ?_
  obtain ⟨r_1, er_1, hE⟩ := cl_e hE
  refine gf_X6_33 C hW k_x0 er_1 dX6_isBefore_1 (fun k_r_1 => ?_)
  refine lv_aload_n C.1 C.2.1 dX6_isBefore_4 rfl (lv_at hl 0 rfl) ?_
  obtain ⟨r_2, er_2, hE⟩ := cl_e hE
  refine gf_X6_18 C hW k_x0 er_2 dX6_isBefore_5 (fun k_r_2 => ?_)
  obtain ⟨o_3, eo_3, hE⟩ := cl_e hE
  refine x_kI (o := o_3) (z_runV (As := [.ref r_2]) (rest := []) C (ct_X5_faultOf l X F k_r_1 k_r_2 eo_3) cw_X6_117 hW hZ k_r_1 (by decide) rfl rfl rfl hl.1 (Nat.le_of_ble_eq_true rfl) rfl dX6_isBefore_8 ⟨Nat.le_of_ble_eq_true rfl, Nat.le_of_ble_eq_true rfl⟩ ⟨Nat.le_refl _, Nat.le_refl _⟩) hZ (fun _ _ hW km hZ => ?_)
  replace hkm := hkm.tr km
  replace k_x0 := km.at k_x0 (by decide)
  refine lv_if_ne (tgt := 28) C.1 C.2.1 dX6_isBefore_11 (by decide) (fun c_4 => ?_) (fun c_4 => ?_)
  · have hE := br_n hE c_4
    exact bX6_isBefore_28 C hkm hW hZ _ (lv_sub hl [] rfl) hE
  · have hE := br_p hE c_4
    refine lv_aload_n C.1 C.2.1 dX6_isBefore_14 rfl (lv_at hl 0 rfl) ?_
    obtain ⟨r_5, er_5, hE⟩ := cl_e hE
    refine gf_X6_33 C hW k_x0 er_5 dX6_isBefore_15 (fun k_r_5 => ?_)
    refine lv_aload_n C.1 C.2.1 dX6_isBefore_18 rfl (lv_at hl 0 rfl) ?_
    obtain ⟨r_6, er_6, hE⟩ := cl_e hE
    refine gf_X6_18 C hW k_x0 er_6 dX6_isBefore_19 (fun k_r_6 => ?_)
    obtain ⟨o_7, eo_7, hE⟩ := cl_e hE
    refine x_kI (o := o_7) (z_runV (As := [.ref r_6]) (rest := []) C (ct_X5_earlyEnd l X k_r_5 k_r_6 eo_7) cw_X6_121 hW hZ k_r_5 (by decide) rfl rfl rfl hl.1 (Nat.le_of_ble_eq_true rfl) rfl dX6_isBefore_22 ⟨Nat.le_of_ble_eq_true rfl, Nat.le_of_ble_eq_true rfl⟩ ⟨Nat.le_refl _, Nat.le_refl _⟩) hZ (fun _ _ hW km hZ => ?_)
    replace hkm := hkm.tr km
    replace k_x0 := km.at k_x0 (by decide)
    refine lv_if_eq (tgt := 30) C.1 C.2.1 dX6_isBefore_25 (by decide) (fun c_8 => ?_) (fun c_8 => ?_)
    · have hE := br_p hE c_8
      refine lv_iload_n C.1 C.2.1 dX6_isBefore_30 rfl (lv_at hl 1 rfl) ?_
      refine lv_iconst (v := (-1 : Int32)) C.1 C.2.1 dX6_isBefore_31 (by decide) ?_
      refine lv_icmp_ne (tgt := 46) C.1 C.2.1 dX6_isBefore_32 (by decide) (fun c_9 => ?_) (fun c_9 => ?_)
      · have hE := br_n hE c_9
        exact bX6_isBefore_46 C hkm hW hZ _ (lv_sub hl [] rfl) hE
      · have hE := br_p hE c_9
        refine lv_aload_n C.1 C.2.1 dX6_isBefore_35 rfl (lv_at hl 0 rfl) ?_
        obtain ⟨r_10, er_10, hE⟩ := cl_e hE
        refine gf_X6_25 C hW k_x0 er_10 dX6_isBefore_36 (fun k_r_10 => ?_)
        refine lv_iconst (v := (2 : Int32)) C.1 C.2.1 dX6_isBefore_39 (by decide) ?_
        obtain ⟨o_11, eo_11, hE⟩ := cl_e hE
        refine x_kI (o := o_11) (z_runV (As := [.int (2 : Int32)]) (rest := []) C (ct_X1_has l X k_r_10 eo_11) cw_X6_61 hW hZ k_r_10 (by decide) rfl rfl rfl hl.1 (Nat.le_of_ble_eq_true rfl) rfl dX6_isBefore_40 ⟨Nat.le_of_ble_eq_true rfl, Nat.le_of_ble_eq_true rfl⟩ ⟨Nat.le_refl _, Nat.le_refl _⟩) hZ (fun _ _ hW km hZ => ?_)
        replace hkm := hkm.tr km
        replace k_x0 := km.at k_x0 (by decide)
        refine lv_if_ne (tgt := 48) C.1 C.2.1 dX6_isBefore_43 (by decide) (fun c_12 => ?_) (fun c_12 => ?_)
        · have hE := br_n hE c_12
          refine lv_aload_n C.1 C.2.1 dX6_isBefore_48 rfl (lv_at hl 0 rfl) ?_
          obtain ⟨r_13, er_13, hE⟩ := cl_e hE
          refine gf_X6_33 C hW k_x0 er_13 dX6_isBefore_49 (fun k_r_13 => ?_)
          refine lv_aload_n C.1 C.2.1 dX6_isBefore_52 rfl (lv_at hl 0 rfl) ?_
          obtain ⟨r_14, er_14, hE⟩ := cl_e hE
          refine gf_X6_18 C hW k_x0 er_14 dX6_isBefore_53 (fun k_r_14 => ?_)
          refine lv_aload_n C.1 C.2.1 dX6_isBefore_56 rfl (lv_at hl 0 rfl) ?_
          obtain ⟨r_15, er_15, hE⟩ := cl_e hE
          refine gf_X6_33 C hW k_x0 er_15 dX6_isBefore_57 (fun k_r_15 => ?_)
          obtain ⟨r_16, er_16, hE⟩ := cl_e hE
          refine gf_X6_124 C hW k_r_15 er_16 dX6_isBefore_60 (fun k_r_16 => ?_)
          refine lv_sipush (v := (4096 : Int32)) C.1 C.2.1 dX6_isBefore_63 (by decide) ?_
          obtain ⟨o_17, eo_17, hE⟩ := cl_e hE
          refine x_kI (o := o_17) (z_runV (As := [.ref r_14, .ref r_16, .int (4096 : Int32)]) (rest := []) C (ct_X5_collect l X F k_r_13 k_r_14 k_r_16 eo_17) cw_X6_127 hW hZ k_r_13 (by decide) rfl rfl rfl hl.1 (Nat.le_of_ble_eq_true rfl) rfl dX6_isBefore_66 ⟨Nat.le_of_ble_eq_true rfl, Nat.le_of_ble_eq_true rfl⟩ ⟨Nat.le_refl _, Nat.le_refl _⟩) hZ (fun _ _ hW km hZ => ?_)
          replace hkm := hkm.tr km
          replace k_x0 := km.at k_x0 (by decide)
          refine lv_istore_n (lv' := [(2, .int o_17.1), (0, .ref x0), (1, .int x1)]) C.1 C.2.1 dX6_isBefore_69 rfl hl (by decide) rfl (fun ls hl => ?_)
          refine lv_iload_n C.1 C.2.1 dX6_isBefore_70 rfl (lv_at hl 0 rfl) ?_
          refine lv_if_le (tgt := 94) C.1 C.2.1 dX6_isBefore_71 (by decide) (fun c_18 => ?_) (fun c_18 => ?_)
          · have hE := br_p hE c_18
            exact bX6_isBefore_94 C hkm hW hZ _ (lv_sub hl [] rfl) hE
          · have hE := br_n hE c_18
            refine lv_aload_n C.1 C.2.1 dX6_isBefore_74 rfl (lv_at hl 1 rfl) ?_
            obtain ⟨r_19, er_19, hE⟩ := cl_e hE
            refine gf_X6_33 C hW k_x0 er_19 dX6_isBefore_75 (fun k_r_19 => ?_)
            obtain ⟨r_20, er_20, hE⟩ := cl_e hE
            refine gf_X6_124 C hW k_r_19 er_20 dX6_isBefore_78 (fun k_r_20 => ?_)
            refine lv_iconst (v := (0 : Int32)) C.1 C.2.1 dX6_isBefore_81 (by decide) ?_
            obtain ⟨g_21, hE⟩ := gd_e hE
            refine y_iald C hW k_r_20 g_21 dX6_isBefore_82 ?_
            obtain ⟨o_22, eo_22, hE⟩ := cl_e hE
            refine x_kI (o := o_22) (z_runS (As := [.int (hI o_17.2 r_20 (0 : Int32).toNatClampNeg)]) (rest := []) C (ct_X5_takenBy l X eo_22) cw_X6_131 hW hZ rfl hl.1 (Nat.le_of_ble_eq_true rfl) rfl dX6_isBefore_83 ⟨Nat.le_of_ble_eq_true rfl, Nat.le_of_ble_eq_true rfl⟩ ⟨Nat.le_refl _, Nat.le_refl _⟩) hZ (fun _ _ hW km hZ => ?_)
            replace hkm := hkm.tr km
            replace k_x0 := km.at k_x0 (by decide)
            refine lv_iconst (v := (-1 : Int32)) C.1 C.2.1 dX6_isBefore_86 (by decide) ?_
            refine lv_icmp_ne (tgt := 94) C.1 C.2.1 dX6_isBefore_87 (by decide) (fun c_23 => ?_) (fun c_23 => ?_)
            · have hE := br_n hE c_23
              exact bX6_isBefore_94 C hkm hW hZ _ (lv_sub hl [] rfl) hE
            · have hE := br_p hE c_23
              refine lv_iconst (v := (1 : Int32)) C.1 C.2.1 dX6_isBefore_90 (by decide) ?_
              refine lv_goto (tgt := 95) C.1 C.2.1 dX6_isBefore_91 (by decide) ?_
              exact bX6_isBefore_95 C hkm hW hZ _ (lv_sub hl [] rfl) hE
        · have hE := br_p hE c_12
          exact bX6_isBefore_46 C hkm hW hZ _ (lv_sub hl [] rfl) hE
    · have hE := br_n hE c_8
      exact bX6_isBefore_28 C hkm hW hZ _ (lv_sub hl [] rfl) hE
