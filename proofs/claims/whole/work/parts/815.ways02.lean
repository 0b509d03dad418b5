set_option maxRecDepth 100000 in
theorem m_1150 : Cond.instanceMethod yX10_isOpen ∈ W0 := w0_in (List.mem_append_right _ (List.mem_of_getElem? (i := 1150) rfl)) rfl
set_option maxRecDepth 100000 in
theorem m_1151 : Cond.selects RX10 yX10_isOpen yX10_isOpen ∈ W0 := w0_in (List.mem_append_right _ (List.mem_of_getElem? (i := 1151) rfl)) rfl
set_option maxRecDepth 100000 in
theorem m_1152 : Cond.code yX10_isOpen cX10_isOpen 6 (some .boolean) ∈ W0 := w0_in (List.mem_append_right _ (List.mem_of_getElem? (i := 1152) rfl)) rfl
set_option maxRecDepth 100000 in
theorem m_1539 : Cond.constantLong RX10 62 (-1 : Int64) ∈ W0 := w0_in (List.mem_append_right _ (List.mem_of_getElem? (i := 1539) rfl)) rfl
set_option maxRecDepth 100000 in
theorem n_1540 : Cond.fieldLinkNest RX10 68 "GameRules" "SQUARE_OF" "[I" "GameRules" ∈ tables_1 := List.mem_of_getElem? (i := 1540) rfl
set_option maxRecDepth 100000 in
theorem m_1541 : Cond.constantLong RX10 71 (285870213051386505 : Int64) ∈ W0 := w0_in (List.mem_append_right _ (List.mem_of_getElem? (i := 1541) rfl)) rfl
set_option maxRecDepth 100000 in
theorem m_1542 : Cond.methodLink RX10 73 yX10_isOpen ∈ W0 := w0_in (List.mem_append_right _ (List.mem_of_getElem? (i := 1542) rfl)) rfl
theorem cw_X10_73 : cwd RX10 73 yX10_isOpen cX10_isOpen 6 (some .boolean) false 2 := ⟨m_1152, m_1542, m_6, ⟨m_1150, m_1151⟩, by decide, by decide, by decide +kernel⟩
theorem dX10_origins_0 : decode cX10_origins 0 = .ok (.lconst 0, 1) := by decide +kernel
theorem dX10_origins_1 : decode cX10_origins 1 = .ok (.lstore 6, 2) := by decide +kernel
theorem dX10_origins_3 : decode cX10_origins 3 = .ok (.iload_n 3, 1) := by decide +kernel
theorem dX10_origins_4 : decode cX10_origins 4 = .ok (.ifCond .eq 7, 3) := by decide +kernel
theorem dX10_origins_7 : decode cX10_origins 7 = .ok (.iconst 1, 1) := by decide +kernel
theorem dX10_origins_8 : decode cX10_origins 8 = .ok (.goto 4, 3) := by decide +kernel
theorem dX10_origins_11 : decode cX10_origins 11 = .ok (.iconst 2, 1) := by decide +kernel
theorem dX10_origins_12 : decode cX10_origins 12 = .ok (.istore 8, 2) := by decide +kernel
theorem dX10_origins_14 : decode cX10_origins 14 = .ok (.aload_n 0, 1) := by decide +kernel
theorem dX10_origins_15 : decode cX10_origins 15 = .ok (.getfield 24, 3) := by decide +kernel
theorem dX10_origins_18 : decode cX10_origins 18 = .ok (.iload_n 1, 1) := by decide +kernel
theorem dX10_origins_19 : decode cX10_origins 19 = .ok (.bipush 64, 2) := by decide +kernel
theorem dX10_origins_21 : decode cX10_origins 21 = .ok (.imul, 1) := by decide +kernel
theorem dX10_origins_22 : decode cX10_origins 22 = .ok (.iload_n 2, 1) := by decide +kernel
theorem dX10_origins_23 : decode cX10_origins 23 = .ok (.iadd, 1) := by decide +kernel
theorem dX10_origins_24 : decode cX10_origins 24 = .ok (.laload, 1) := by decide +kernel
theorem dX10_origins_25 : decode cX10_origins 25 = .ok (.lload 4, 2) := by decide +kernel
theorem dX10_origins_27 : decode cX10_origins 27 = .ok (.ldc2_w 62, 3) := by decide +kernel
theorem dX10_origins_30 : decode cX10_origins 30 = .ok (.lxor, 1) := by decide +kernel
theorem dX10_origins_31 : decode cX10_origins 31 = .ok (.land, 1) := by decide +kernel
theorem dX10_origins_32 : decode cX10_origins 32 = .ok (.lstore 9, 2) := by decide +kernel
theorem dX10_origins_34 : decode cX10_origins 34 = .ok (.iload_n 1, 1) := by decide +kernel
theorem dX10_origins_35 : decode cX10_origins 35 = .ok (.iconst 0, 1) := by decide +kernel
theorem dX10_origins_36 : decode cX10_origins 36 = .ok (.iload_n 2, 1) := by decide +kernel
theorem dX10_origins_37 : decode cX10_origins 37 = .ok (.invokestatic 64, 3) := by decide +kernel
theorem dX10_origins_40 : decode cX10_origins 40 = .ok (.istore 11, 2) := by decide +kernel
theorem dX10_origins_42 : decode cX10_origins 42 = .ok (.iconst 0, 1) := by decide +kernel
theorem dX10_origins_43 : decode cX10_origins 43 = .ok (.istore 12, 2) := by decide +kernel
theorem dX10_origins_45 : decode cX10_origins 45 = .ok (.iload 12, 2) := by decide +kernel
theorem dX10_origins_47 : decode cX10_origins 47 = .ok (.bipush 64, 2) := by decide +kernel
theorem dX10_origins_49 : decode cX10_origins 49 = .ok (.if_icmp .ge 120, 3) := by decide +kernel
theorem dX10_origins_52 : decode cX10_origins 52 = .ok (.lload 9, 2) := by decide +kernel
theorem dX10_origins_54 : decode cX10_origins 54 = .ok (.lconst 0, 1) := by decide +kernel
theorem dX10_origins_55 : decode cX10_origins 55 = .ok (.lcmp, 1) := by decide +kernel
theorem dX10_origins_56 : decode cX10_origins 56 = .ok (.ifCond .eq 113, 3) := by decide +kernel
theorem dX10_origins_59 : decode cX10_origins 59 = .ok (.lload 9, 2) := by decide +kernel
theorem dX10_origins_61 : decode cX10_origins 61 = .ok (.lload 9, 2) := by decide +kernel
theorem dX10_origins_63 : decode cX10_origins 63 = .ok (.lneg, 1) := by decide +kernel
theorem dX10_origins_64 : decode cX10_origins 64 = .ok (.land, 1) := by decide +kernel
theorem dX10_origins_65 : decode cX10_origins 65 = .ok (.lstore 13, 2) := by decide +kernel
theorem dX10_origins_67 : decode cX10_origins 67 = .ok (.lload 9, 2) := by decide +kernel
theorem dX10_origins_69 : decode cX10_origins 69 = .ok (.lload 13, 2) := by decide +kernel
theorem dX10_origins_71 : decode cX10_origins 71 = .ok (.lxor, 1) := by decide +kernel
theorem dX10_origins_72 : decode cX10_origins 72 = .ok (.lstore 9, 2) := by decide +kernel
theorem dX10_origins_74 : decode cX10_origins 74 = .ok (.iload 11, 2) := by decide +kernel
theorem dX10_origins_76 : decode cX10_origins 76 = .ok (.getstatic 68, 3) := by decide +kernel
theorem dX10_origins_79 : decode cX10_origins 79 = .ok (.lload 13, 2) := by decide +kernel
theorem dX10_origins_81 : decode cX10_origins 81 = .ok (.ldc2_w 71, 3) := by decide +kernel
theorem dX10_origins_84 : decode cX10_origins 84 = .ok (.lmul, 1) := by decide +kernel
theorem dX10_origins_85 : decode cX10_origins 85 = .ok (.bipush 58, 2) := by decide +kernel
theorem dX10_origins_87 : decode cX10_origins 87 = .ok (.lushr, 1) := by decide +kernel
theorem dX10_origins_88 : decode cX10_origins 88 = .ok (.l2i, 1) := by decide +kernel
theorem dX10_origins_89 : decode cX10_origins 89 = .ok (.iaload, 1) := by decide +kernel
theorem dX10_origins_90 : decode cX10_origins 90 = .ok (.bipush 64, 2) := by decide +kernel
theorem dX10_origins_92 : decode cX10_origins 92 = .ok (.imul, 1) := by decide +kernel
theorem dX10_origins_93 : decode cX10_origins 93 = .ok (.iadd, 1) := by decide +kernel
theorem dX10_origins_94 : decode cX10_origins 94 = .ok (.istore 15, 2) := by decide +kernel
theorem dX10_origins_96 : decode cX10_origins 96 = .ok (.aload_n 0, 1) := by decide +kernel
theorem dX10_origins_97 : decode cX10_origins 97 = .ok (.getfield 10, 3) := by decide +kernel
theorem dX10_origins_100 : decode cX10_origins 100 = .ok (.iload 15, 2) := by decide +kernel
theorem dX10_origins_102 : decode cX10_origins 102 = .ok (.iconst 1, 1) := by decide +kernel
theorem dX10_origins_103 : decode cX10_origins 103 = .ok (.iadd, 1) := by decide +kernel
theorem dX10_origins_104 : decode cX10_origins 104 = .ok (.iaload, 1) := by decide +kernel
theorem dX10_origins_105 : decode cX10_origins 105 = .ok (.istore 16, 2) := by decide +kernel
theorem dX10_origins_107 : decode cX10_origins 107 = .ok (.aload_n 0, 1) := by decide +kernel
theorem dX10_origins_108 : decode cX10_origins 108 = .ok (.getfield 10, 3) := by decide +kernel
theorem dX10_origins_111 : decode cX10_origins 111 = .ok (.iload 15, 2) := by decide +kernel
theorem dX10_origins_113 : decode cX10_origins 113 = .ok (.iaload, 1) := by decide +kernel
theorem dX10_origins_114 : decode cX10_origins 114 = .ok (.istore 17, 2) := by decide +kernel
theorem dX10_origins_116 : decode cX10_origins 116 = .ok (.iload 17, 2) := by decide +kernel
theorem dX10_origins_118 : decode cX10_origins 118 = .ok (.iload 16, 2) := by decide +kernel
theorem dX10_origins_120 : decode cX10_origins 120 = .ok (.if_icmp .ge 43, 3) := by decide +kernel
theorem dX10_origins_123 : decode cX10_origins 123 = .ok (.aload_n 0, 1) := by decide +kernel
theorem dX10_origins_124 : decode cX10_origins 124 = .ok (.getfield 17, 3) := by decide +kernel
theorem dX10_origins_127 : decode cX10_origins 127 = .ok (.iload 17, 2) := by decide +kernel
theorem dX10_origins_129 : decode cX10_origins 129 = .ok (.iaload, 1) := by decide +kernel
theorem dX10_origins_130 : decode cX10_origins 130 = .ok (.bipush 6, 2) := by decide +kernel
theorem dX10_origins_132 : decode cX10_origins 132 = .ok (.ishr, 1) := by decide +kernel
theorem dX10_origins_133 : decode cX10_origins 133 = .ok (.iload 8, 2) := by decide +kernel
theorem dX10_origins_135 : decode cX10_origins 135 = .ok (.iand, 1) := by decide +kernel
theorem dX10_origins_136 : decode cX10_origins 136 = .ok (.ifCond .ne 21, 3) := by decide +kernel
theorem dX10_origins_139 : decode cX10_origins 139 = .ok (.aload_n 0, 1) := by decide +kernel
theorem dX10_origins_140 : decode cX10_origins 140 = .ok (.iload 17, 2) := by decide +kernel
theorem dX10_origins_142 : decode cX10_origins 142 = .ok (.lload 4, 2) := by decide +kernel
theorem dX10_origins_144 : decode cX10_origins 144 = .ok (.invokevirtual 73, 3) := by decide +kernel
theorem dX10_origins_147 : decode cX10_origins 147 = .ok (.ifCond .eq 10, 3) := by decide +kernel
theorem dX10_origins_150 : decode cX10_origins 150 = .ok (.lload 6, 2) := by decide +kernel
theorem dX10_origins_152 : decode cX10_origins 152 = .ok (.lload 13, 2) := by decide +kernel
theorem dX10_origins_154 : decode cX10_origins 154 = .ok (.lor, 1) := by decide +kernel
theorem dX10_origins_155 : decode cX10_origins 155 = .ok (.lstore 6, 2) := by decide +kernel
theorem dX10_origins_157 : decode cX10_origins 157 = .ok (.iinc 17 1, 3) := by decide +kernel
theorem dX10_origins_160 : decode cX10_origins 160 = .ok (.goto (-44), 3) := by decide +kernel
theorem dX10_origins_163 : decode cX10_origins 163 = .ok (.iinc 12 1, 3) := by decide +kernel
theorem dX10_origins_166 : decode cX10_origins 166 = .ok (.goto (-121), 3) := by decide +kernel
theorem dX10_origins_169 : decode cX10_origins 169 = .ok (.lload 6, 2) := by decide +kernel
theorem dX10_origins_171 : decode cX10_origins 171 = .ok (.lreturn, 1) := by decide +kernel
set_option maxRecDepth 20000 in
theorem moX10_origins_169 {o : Int64 × Hp} {F : Nat} {h : Hp} {x6 : Int64} (hE : sX10_origins_169 F h x6 = some o) : Le h o.2 := by
  exact le_some2 hE
set_option maxRecDepth 20000 in
theorem moX10_origins_157 {o : Int64 × Hp} {k_45 : Hp → Nat → Int64 → Int64 → Int32 → Int64 → Int32 → Int32 → Option (Int64 × Hp)} {k_116 : Hp → Nat → Int64 → Int64 → Int32 → Int64 → Int32 → Int32 → Int64 → Int32 → Int32 → Option (Int64 × Hp)} {F : Nat} (mk_45 : ∀ (h : Hp) (x0 : Nat) (x4 : Int64) (x6 : Int64) (x8 : Int32) (x9 : Int64) (x11 : Int32) (x12 : Int32), k_45 h x0 x4 x6 x8 x9 x11 x12 = some o → Le h o.2) (mk_116 : ∀ (h : Hp) (x0 : Nat) (x4 : Int64) (x6 : Int64) (x8 : Int32) (x9 : Int64) (x11 : Int32) (x12 : Int32) (x13 : Int64) (x16 : Int32) (x17 : Int32), k_116 h x0 x4 x6 x8 x9 x11 x12 x13 x16 x17 = some o → Le h o.2) {h : Hp} {x0 : Nat} {x4 : Int64} {x6 : Int64} {x8 : Int32} {x9 : Int64} {x11 : Int32} {x12 : Int32} {x13 : Int64} {x16 : Int32} {x17 : Int32} (hE : sX10_origins_157 F k_45 k_116 h x0 x4 x6 x8 x9 x11 x12 x13 x16 x17 = some o) : Le h o.2 := by
  obtain ⟨v_1, ev_1, hE⟩ := nm_e2 hE
  exact mk_116 _ _ _ _ _ _ _ _ _ _ _ hE
set_option maxRecDepth 20000 in
theorem moX10_origins_116 {o : Int64 × Hp} {k_45 : Hp → Nat → Int64 → Int64 → Int32 → Int64 → Int32 → Int32 → Option (Int64 × Hp)} {F : Nat} (mk_45 : ∀ (h : Hp) (x0 : Nat) (x4 : Int64) (x6 : Int64) (x8 : Int32) (x9 : Int64) (x11 : Int32) (x12 : Int32), k_45 h x0 x4 x6 x8 x9 x11 x12 = some o → Le h o.2) : ∀ (f : Nat) {h : Hp} {x0 : Nat} {x4 : Int64} {x6 : Int64} {x8 : Int32} {x9 : Int64} {x11 : Int32} {x12 : Int32} {x13 : Int64} {x16 : Int32} {x17 : Int32}, sX10_origins_116 F k_45 f h x0 x4 x6 x8 x9 x11 x12 x13 x16 x17 = some o → Le h o.2 := by
  intro f
  induction f with
  | zero =>
    intro h x0 x4 x6 x8 x9 x11 x12 x13 x16 x17 hE
    rw [sX10_origins_116] at hE
    cases hE
  | succ f ih =>
    intro h x0 x4 x6 x8 x9 x11 x12 x13 x16 x17 hE
    rw [sX10_origins_116] at hE
    have mk_116 : ∀ (h : Hp) (x0 : Nat) (x4 : Int64) (x6 : Int64) (x8 : Int32) (x9 : Int64) (x11 : Int32) (x12 : Int32) (x13 : Int64) (x16 : Int32) (x17 : Int32), sX10_origins_116 F k_45 f h x0 x4 x6 x8 x9 x11 x12 x13 x16 x17 = some o → Le h o.2 := fun h x0 x4 x6 x8 x9 x11 x12 x13 x16 x17 hE => ih hE
    rcases br_e hE with ⟨_, hE⟩ | ⟨_, hE⟩
    · obtain ⟨v_2, ev_2, hE⟩ := nm_e2 hE
      exact mk_45 _ _ _ _ _ _ _ _ hE
    · obtain ⟨r_3, er_3, hE⟩ := cl_e hE
      obtain ⟨g_4, hE⟩ := gd_e hE
      rcases br_e hE with ⟨_, hE⟩ | ⟨_, hE⟩
      · obtain ⟨o_6, eo_6, hE⟩ := cl_e hE
        refine (moX10_isOpen eo_6).tr ?_
        rcases br_e hE with ⟨_, hE⟩ | ⟨_, hE⟩
        · exact moX10_origins_157 mk_45 mk_116 hE
        · obtain ⟨v_8, ev_8, hE⟩ := nm_e2 hE
          exact moX10_origins_157 mk_45 mk_116 hE
      · exact moX10_origins_157 mk_45 mk_116 hE
set_option maxRecDepth 20000 in
theorem moX10_origins_45 {o : Int64 × Hp} {F : Nat} : ∀ (f : Nat) {h : Hp} {x0 : Nat} {x4 : Int64} {x6 : Int64} {x8 : Int32} {x9 : Int64} {x11 : Int32} {x12 : Int32}, sX10_origins_45 F f h x0 x4 x6 x8 x9 x11 x12 = some o → Le h o.2 := by
  intro f
  induction f with
  | zero =>
    intro h x0 x4 x6 x8 x9 x11 x12 hE
    rw [sX10_origins_45] at hE
    cases hE
  | succ f ih =>
    intro h x0 x4 x6 x8 x9 x11 x12 hE
    rw [sX10_origins_45] at hE
    have mk_45 : ∀ (h : Hp) (x0 : Nat) (x4 : Int64) (x6 : Int64) (x8 : Int32) (x9 : Int64) (x11 : Int32) (x12 : Int32), sX10_origins_45 F f h x0 x4 x6 x8 x9 x11 x12 = some o → Le h o.2 := fun h x0 x4 x6 x8 x9 x11 x12 hE => ih hE
    rcases br_e hE with ⟨_, hE⟩ | ⟨_, hE⟩
    · exact moX10_origins_169 hE
    · rcases br_e hE with ⟨_, hE⟩ | ⟨_, hE⟩
      · exact moX10_origins_169 hE
      · obtain ⟨v_3, ev_3, hE⟩ := nm_e2 hE
        obtain ⟨v_4, ev_4, hE⟩ := nm_e2 hE
        obtain ⟨g_5, hE⟩ := gd_e hE
        obtain ⟨v_6, ev_6, hE⟩ := nm_e2 hE
        obtain ⟨r_7, er_7, hE⟩ := cl_e hE
        obtain ⟨g_8, hE⟩ := gd_e hE
        obtain ⟨v_9, ev_9, hE⟩ := nm_e2 hE
        obtain ⟨r_10, er_10, hE⟩ := cl_e hE
        obtain ⟨g_11, hE⟩ := gd_e hE
        obtain ⟨v_12, ev_12, hE⟩ := nm_e2 hE
        exact moX10_origins_116 mk_45 _ hE
set_option maxRecDepth 20000 in
theorem moX10_origins_12 {o : Int64 × Hp} {F : Nat} {h : Hp} {x0 : Nat} {x1 : Int32} {x2 : Int32} {x4 : Int64} {x6 : Int64} {t0 : Int32} (hE : sX10_origins_12 F h x0 x1 x2 x4 x6 t0 = some o) : Le h o.2 := by
  obtain ⟨r_1, er_1, hE⟩ := cl_e hE
  obtain ⟨g_2, hE⟩ := gd_e hE
  obtain ⟨v_3, ev_3, hE⟩ := nm_e2 hE
  obtain ⟨o_4, eo_4, hE⟩ := cl_e hE
  refine (moX10_cell eo_4).tr ?_
  exact moX10_origins_45 _ hE
set_option maxRecDepth 20000 in
theorem moX10_origins {o : Int64 × Hp} {F : Nat} {h : Hp} {x0 : Nat} {x1 : Int32} {x2 : Int32} {x3 : Int32} {x4 : Int64} (hE : sX10_origins F h x0 x1 x2 x3 x4 = some o) : Le h o.2 := by
  rcases br_e hE with ⟨_, hE⟩ | ⟨_, hE⟩
  · exact moX10_origins_12 hE
  · exact moX10_origins_12 hE
set_option maxRecDepth 20000 in
theorem bX10_origins_169 {p : Program} {l : Launch} {e : Env} {s : State} {m : MethodId} {args : Array Value} {below : List Frame} {meth : Method} {c : Code} {X : Ec} {h0 : Hp} {o : Int64 × Hp} {F : Nat} (C : Cx X p s m args meth c RX10 cX10_origins 18 (some .long) "origins") {h : Hp} {x6 : Int64} {H : Heap} {locs : List Loc} (hkm : Km h0 h) (hW : Wx X h H) (hZ : va_S (aA (eB X)) s.heap H locs) (ls : Array Slot) (hl : lv_has ls 18 [(6, .long x6)]) (hE : sX10_origins_169 F h x6 = some o) : W p l e (rm 1 25) s m args below meth c H locs 0 0 (MQ below (QJ X h0 o.1 o.2) args s 0 0 (aA (eB X))) (F0 m 169 ls []) := by
  refine lv_lload C.1 C.2.1 dX10_origins_169 (lv_at hl 0 rfl) ?_
  exact x_lret C rfl hW hZ hkm hE dX10_origins_171
set_option maxRecDepth 20000 in
theorem bX10_origins_157 {p : Program} {l : Launch} {e : Env} {s : State} {m : MethodId} {args : Array Value} {below : List Frame} {meth : Method} {c : Code} {X : Ec} {h0 : Hp} {o : Int64 × Hp} {k_45 : Hp → Nat → Int64 → Int64 → Int32 → Int64 → Int32 → Int32 → Option (Int64 × Hp)} {k_116 : Hp → Nat → Int64 → Int64 → Int32 → Int64 → Int32 → Int32 → Int64 → Int32 → Int32 → Option (Int64 × Hp)} {F : Nat} (C : Cx X p s m args meth c RX10 cX10_origins 18 (some .long) "origins") (hk_45 : ∀ (h : Hp) (x0 : Nat) (x4 : Int64) (x6 : Int64) (x8 : Int32) (x9 : Int64) (x11 : Int32) (x12 : Int32) (H : Heap) (locs : List Loc), hK h x0 = 10 → Km h0 h → Wx X h H → va_S (aA (eB X)) s.heap H locs → ∀ (ls : Array Slot), lv_has ls 18 [(0, .ref x0), (4, .long x4), (6, .long x6), (8, .int x8), (9, .long x9), (11, .int x11), (12, .int x12)] → k_45 h x0 x4 x6 x8 x9 x11 x12 = some o → W p l e (rm 1 25) s m args below meth c H locs 0 0 (MQ below (QJ X h0 o.1 o.2) args s 0 0 (aA (eB X))) (F0 m 45 ls [])) (hk_116 : ∀ (h : Hp) (x0 : Nat) (x4 : Int64) (x6 : Int64) (x8 : Int32) (x9 : Int64) (x11 : Int32) (x12 : Int32) (x13 : Int64) (x16 : Int32) (x17 : Int32) (H : Heap) (locs : List Loc), hK h x0 = 10 → Km h0 h → Wx X h H → va_S (aA (eB X)) s.heap H locs → ∀ (ls : Array Slot), lv_has ls 18 [(0, .ref x0), (4, .long x4), (6, .long x6), (8, .int x8), (9, .long x9), (11, .int x11), (12, .int x12), (13, .long x13), (16, .int x16), (17, .int x17)] → k_116 h x0 x4 x6 x8 x9 x11 x12 x13 x16 x17 = some o → W p l e (rm 1 25) s m args below meth c H locs 0 0 (MQ below (QJ X h0 o.1 o.2) args s 0 0 (aA (eB X))) (F0 m 116 ls [])) {h : Hp} {x0 : Nat} {x4 : Int64} {x6 : Int64} {x8 : Int32} {x9 : Int64} {x11 : Int32} {x12 : Int32} {x13 : Int64} {x16 : Int32} {x17 : Int32} {H : Heap} {locs : List Loc} (k_x0 : hK h x0 = 10) (hkm : Km h0 h) (hW : Wx X h H) (hZ : va_S (aA (eB X)) s.heap H locs) (ls : Array Slot) (hl : lv_has ls 18 [(0, .ref x0), (4, .long x4), (6, .long x6), (8, .int x8), (9, .long x9), (11, .int x11), (12, .int x12), (13, .long x13), (16, .int x16), (17, .int x17)]) (hE : sX10_origins_157 F k_45 k_116 h x0 x4 x6 x8 x9 x11 x12 x13 x16 x17 = some o) : W p l e (rm 1 25) s m args below meth c H locs 0 0 (MQ below (QJ X h0 o.1 o.2) args s 0 0 (aA (eB X))) (F0 m 157 ls []) := by
  obtain ⟨v_1, ev_1, hE⟩ := nm_e2 hE
  refine lv_iinc (v := v_1) (lv' := [(17, .int v_1), (0, .ref x0), (4, .long x4), (6, .long x6), (8, .int x8), (9, .long x9), (11, .int x11), (12, .int x12), (13, .long x13), (16, .int x16)]) C.1 C.2.1 dX10_origins_157 hl (k := 9) rfl (by rw [ev_1]; rfl) (by decide) rfl (fun ls hl => ?_)
  refine lv_goto (tgt := 116) C.1 C.2.1 dX10_origins_160 (by decide) ?_
  exact hk_116 _ _ _ _ _ _ _ _ _ _ _ _ _ k_x0 hkm hW hZ _ (lv_sub hl [1, 2, 3, 4, 5, 6, 7, 8, 9, 0] rfl) hE
set_option maxRecDepth 20000 in
theorem bX10_origins_116 {p : Program} {l : Launch} {e : Env} {s : State} {m : MethodId} {args : Array Value} {below : List Frame} {meth : Method} {c : Code} {X : Ec} {h0 : Hp} {o : Int64 × Hp} {k_45 : Hp → Nat → Int64 → Int64 → Int32 → Int64 → Int32 → Int32 → Option (Int64 × Hp)} {F : Nat} (C : Cx X p s m args meth c RX10 cX10_origins 18 (some .long) "origins") (hk_45 : ∀ (h : Hp) (x0 : Nat) (x4 : Int64) (x6 : Int64) (x8 : Int32) (x9 : Int64) (x11 : Int32) (x12 : Int32) (H : Heap) (locs : List Loc), hK h x0 = 10 → Km h0 h → Wx X h H → va_S (aA (eB X)) s.heap H locs → ∀ (ls : Array Slot), lv_has ls 18 [(0, .ref x0), (4, .long x4), (6, .long x6), (8, .int x8), (9, .long x9), (11, .int x11), (12, .int x12)] → k_45 h x0 x4 x6 x8 x9 x11 x12 = some o → W p l e (rm 1 25) s m args below meth c H locs 0 0 (MQ below (QJ X h0 o.1 o.2) args s 0 0 (aA (eB X))) (F0 m 45 ls [])) : ∀ (f : Nat) {h : Hp} {x0 : Nat} {x4 : Int64} {x6 : Int64} {x8 : Int32} {x9 : Int64} {x11 : Int32} {x12 : Int32} {x13 : Int64} {x16 : Int32} {x17 : Int32} {H : Heap} {locs : List Loc} (k_x0 : hK h x0 = 10), Km h0 h → Wx X h H → va_S (aA (eB X)) s.heap H locs → ∀ (ls : Array Slot), lv_has ls 18 [(0, .ref x0), (4, .long x4), (6, .long x6), (8, .int x8), (9, .long x9), (11, .int x11), (12, .int x12), (13, .long x13), (16, .int x16), (17, .int x17)] → sX10_origins_116 F k_45 f h x0 x4 x6 x8 x9 x11 x12 x13 x16 x17 = some o → W p l e (rm 1 25) s m args below meth c H locs 0 0 (MQ below (QJ X h0 o.1 o.2) args s 0 0 (aA (eB X))) (F0 m 116 ls []) := by
  intro f
  induction f with
  | zero =>
    intro h x0 x4 x6 x8 x9 x11 x12 x13 x16 x17 H locs k_x0 hkm hW hZ ls hl hE
    rw [sX10_origins_116] at hE
    cases hE
  | succ f ih =>
    intro h x0 x4 x6 x8 x9 x11 x12 x13 x16 x17 H locs k_x0 hkm hW hZ ls hl hE
    rw [sX10_origins_116] at hE
    have hk_116 : ∀ (h : Hp) (x0 : Nat) (x4 : Int64) (x6 : Int64) (x8 : Int32) (x9 : Int64) (x11 : Int32) (x12 : Int32) (x13 : Int64) (x16 : Int32) (x17 : Int32) (H : Heap) (locs : List Loc), hK h x0 = 10 → Km h0 h → Wx X h H → va_S (aA (eB X)) s.heap H locs → ∀ (ls : Array Slot), lv_has ls 18 [(0, .ref x0), (4, .long x4), (6, .long x6), (8, .int x8), (9, .long x9), (11, .int x11), (12, .int x12), (13, .long x13), (16, .int x16), (17, .int x17)] → sX10_origins_116 F k_45 f h x0 x4 x6 x8 x9 x11 x12 x13 x16 x17 = some o → W p l e (rm 1 25) s m args below meth c H locs 0 0 (MQ below (QJ X h0 o.1 o.2) args s 0 0 (aA (eB X))) (F0 m 116 ls []) := fun h x0 x4 x6 x8 x9 x11 x12 x13 x16 x17 H locs k_x0 a b c ls hl hE => ih k_x0 a b c ls hl hE
    refine lv_iload C.1 C.2.1 dX10_origins_116 (lv_at hl 9 rfl) ?_
    refine lv_iload C.1 C.2.1 dX10_origins_118 (lv_at hl 8 rfl) ?_
    refine lv_icmp_ge (tgt := 163) C.1 C.2.1 dX10_origins_120 (by decide) (fun c_1 => ?_) (fun c_1 => ?_)
    · have hE := br_p hE c_1
      obtain ⟨v_2, ev_2, hE⟩ := nm_e2 hE
      refine lv_iinc (v := v_2) (lv' := [(12, .int v_2), (0, .ref x0), (4, .long x4), (6, .long x6), (8, .int x8), (9, .long x9), (11, .int x11), (13, .long x13), (16, .int x16), (17, .int x17)]) C.1 C.2.1 dX10_origins_163 hl (k := 6) rfl (by rw [ev_2]; rfl) (by decide) rfl (fun ls hl => ?_)
      refine lv_goto (tgt := 45) C.1 C.2.1 dX10_origins_166 (by decide) ?_
      exact hk_45 _ _ _ _ _ _ _ _ _ _ k_x0 hkm hW hZ _ (lv_sub hl [1, 2, 3, 4, 5, 6, 0] rfl) hE
    · have hE := br_n hE c_1
      refine lv_aload_n C.1 C.2.1 dX10_origins_123 rfl (lv_at hl 0 rfl) ?_
      obtain ⟨r_3, er_3, hE⟩ := cl_e hE
      refine gf_X10_17 C hW k_x0 er_3 dX10_origins_124 (fun k_r_3 => ?_)
      refine lv_iload C.1 C.2.1 dX10_origins_127 (lv_at hl 9 rfl) ?_
      obtain ⟨g_4, hE⟩ := gd_e hE
      refine y_iald C hW k_r_3 g_4 dX10_origins_129 ?_
      refine lv_bipush (v := (6 : Int32)) C.1 C.2.1 dX10_origins_130 (by decide) ?_
      refine lv_ishr C.1 C.2.1 dX10_origins_132 ?_
      refine lv_iload C.1 C.2.1 dX10_origins_133 (lv_at hl 3 rfl) ?_
      refine lv_iand C.1 C.2.1 dX10_origins_135 ?_
      refine lv_if_ne (tgt := 157) C.1 C.2.1 dX10_origins_136 (by decide) (fun c_5 => ?_) (fun c_5 => ?_)
      · have hE := br_n hE c_5
        exact bX10_origins_157 C hk_45 hk_116 k_x0 hkm hW hZ _ (lv_sub hl [0, 1, 2, 3, 4, 5, 6, 7, 8, 9] rfl) hE
      · have hE := br_p hE c_5
        refine lv_aload_n C.1 C.2.1 dX10_origins_139 rfl (lv_at hl 0 rfl) ?_
        refine lv_iload C.1 C.2.1 dX10_origins_140 (lv_at hl 9 rfl) ?_
        refine lv_lload C.1 C.2.1 dX10_origins_142 (lv_at hl 1 rfl) ?_
        obtain ⟨o_6, eo_6, hE⟩ := cl_e hE
        refine x_kI (o := o_6) (z_runV (As := [.int x17, .long x4]) (rest := []) C (ct_X10_isOpen l X k_x0 eo_6) cw_X10_73 hW hZ k_x0 (by decide) rfl rfl rfl hl.1 (Nat.le_of_ble_eq_true rfl) rfl dX10_origins_144 ⟨Nat.le_of_ble_eq_true rfl, Nat.le_of_ble_eq_true rfl⟩ ⟨Nat.le_refl _, Nat.le_refl _⟩) hZ (fun _ _ hW km hZ => ?_)
        replace hkm := hkm.tr km
        replace k_x0 := km.at k_x0 (by decide)
        refine lv_if_eq (tgt := 157) C.1 C.2.1 dX10_origins_147 (by decide) (fun c_7 => ?_) (fun c_7 => ?_)
        · have hE := br_p hE c_7
          exact bX10_origins_157 C hk_45 hk_116 k_x0 hkm hW hZ _ (lv_sub hl [0, 1, 2, 3, 4, 5, 6, 7, 8, 9] rfl) hE
        · have hE := br_n hE c_7
          refine lv_lload C.1 C.2.1 dX10_origins_150 (lv_at hl 2 rfl) ?_
          refine lv_lload C.1 C.2.1 dX10_origins_152 (lv_at hl 7 rfl) ?_
          refine lv_lor C.1 C.2.1 dX10_origins_154 ?_
          obtain ⟨v_8, ev_8, hE⟩ := nm_e2 hE
          refine x_nmJ ev_8 ?_
          refine lv_lstore (lv' := [(6, .long v_8), (0, .ref x0), (4, .long x4), (8, .int x8), (9, .long x9), (11, .int x11), (12, .int x12), (13, .long x13), (16, .int x16), (17, .int x17)]) C.1 C.2.1 dX10_origins_155 hl (by decide) rfl (fun ls hl => ?_)
          exact bX10_origins_157 C hk_45 hk_116 k_x0 hkm hW hZ _ (lv_sub hl [1, 2, 0, 3, 4, 5, 6, 7, 8, 9] rfl) hE
set_option maxRecDepth 20000 in
theorem bX10_origins_45 {p : Program} {l : Launch} {e : Env} {s : State} {m : MethodId} {args : Array Value} {below : List Frame} {meth : Method} {c : Code} {X : Ec} {h0 : Hp} {o : Int64 × Hp} {F : Nat} (C : Cx X p s m args meth c RX10 cX10_origins 18 (some .long) "origins") : ∀ (f : Nat) {h : Hp} {x0 : Nat} {x4 : Int64} {x6 : Int64} {x8 : Int32} {x9 : Int64} {x11 : Int32} {x12 : Int32} {H : Heap} {locs : List Loc} (k_x0 : hK h x0 = 10), Km h0 h → Wx X h H → va_S (aA (eB X)) s.heap H locs → ∀ (ls : Array Slot), lv_has ls 18 [(0, .ref x0), (4, .long x4), (6, .long x6), (8, .int x8), (9, .long x9), (11, .int x11), (12, .int x12)] → sX10_origins_45 F f h x0 x4 x6 x8 x9 x11 x12 = some o → W p l e (rm 1 25) s m args below meth c H locs 0 0 (MQ below (QJ X h0 o.1 o.2) args s 0 0 (aA (eB X))) (F0 m 45 ls []) := by
  intro f
  induction f with
  | zero =>
    intro h x0 x4 x6 x8 x9 x11 x12 H locs k_x0 hkm hW hZ ls hl hE
    rw [sX10_origins_45] at hE
    cases hE
  | succ f ih =>
    intro h x0 x4 x6 x8 x9 x11 x12 H locs k_x0 hkm hW hZ ls hl hE
    rw [sX10_origins_45] at hE
    have hk_45 : ∀ (h : Hp) (x0 : Nat) (x4 : Int64) (x6 : Int64) (x8 : Int32) (x9 : Int64) (x11 : Int32) (x12 : Int32) (H : Heap) (locs : List Loc), hK h x0 = 10 → Km h0 h → Wx X h H → va_S (aA (eB X)) s.heap H locs → ∀ (ls : Array Slot), lv_has ls 18 [(0, .ref x0), (4, .long x4), (6, .long x6), (8, .int x8), (9, .long x9), (11, .int x11), (12, .int x12)] → sX10_origins_45 F f h x0 x4 x6 x8 x9 x11 x12 = some o → W p l e (rm 1 25) s m args below meth c H locs 0 0 (MQ below (QJ X h0 o.1 o.2) args s 0 0 (aA (eB X))) (F0 m 45 ls []) := fun h x0 x4 x6 x8 x9 x11 x12 H locs k_x0 a b c ls hl hE => ih k_x0 a b c ls hl hE
    refine lv_iload C.1 C.2.1 dX10_origins_45 (lv_at hl 6 rfl) ?_
    refine lv_bipush (v := (64 : Int32)) C.1 C.2.1 dX10_origins_47 (by decide) ?_
    refine lv_icmp_ge (tgt := 169) C.1 C.2.1 dX10_origins_49 (by decide) (fun c_1 => ?_) (fun c_1 => ?_)
    · have hE := br_p hE c_1
      exact bX10_origins_169 C hkm hW hZ _ (lv_sub hl [2] rfl) hE
    · have hE := br_n hE c_1
      refine lv_lload C.1 C.2.1 dX10_origins_52 (lv_at hl 4 rfl) ?_
      refine lv_lconst (v := (0 : Int64)) C.1 C.2.1 dX10_origins_54 (by decide) ?_
      refine W.lcmp C.1 C.2.1 dX10_origins_55 ?_
      refine lv_if_eq (tgt := 169) C.1 C.2.1 dX10_origins_56 (by decide) (fun c_2 => ?_) (fun c_2 => ?_)
      · have hE := br_p hE c_2
        exact bX10_origins_169 C hkm hW hZ _ (lv_sub hl [2] rfl) hE
      · have hE := br_n hE c_2
        refine lv_lload C.1 C.2.1 dX10_origins_59 (lv_at hl 4 rfl) ?_
        refine lv_lload C.1 C.2.1 dX10_origins_61 (lv_at hl 4 rfl) ?_
        refine lv_lneg C.1 C.2.1 dX10_origins_63 ?_
        refine lv_land C.1 C.2.1 dX10_origins_64 ?_
        obtain ⟨v_3, ev_3, hE⟩ := nm_e2 hE
        refine x_nmJ ev_3 ?_
        refine lv_lstore (lv' := [(13, .long v_3), (0, .ref x0), (4, .long x4), (6, .long x6), (8, .int x8), (9, .long x9), (11, .int x11), (12, .int x12)]) C.1 C.2.1 dX10_origins_65 hl (by decide) rfl (fun ls hl => ?_)
        refine lv_lload C.1 C.2.1 dX10_origins_67 (lv_at hl 5 rfl) ?_
        refine lv_lload C.1 C.2.1 dX10_origins_69 (lv_at hl 0 rfl) ?_
        refine lv_lxor C.1 C.2.1 dX10_origins_71 ?_
        obtain ⟨v_4, ev_4, hE⟩ := nm_e2 hE
        refine x_nmJ ev_4 ?_
        refine lv_lstore (lv' := [(9, .long v_4), (13, .long v_3), (0, .ref x0), (4, .long x4), (6, .long x6), (8, .int x8), (11, .int x11), (12, .int x12)]) C.1 C.2.1 dX10_origins_72 hl (by decide) rfl (fun ls hl => ?_)
        refine lv_iload C.1 C.2.1 dX10_origins_74 (lv_at hl 6 rfl) ?_
        refine y_sqN C hZ n_1540 dX10_origins_76 ?_
        refine lv_lload C.1 C.2.1 dX10_origins_79 (lv_at hl 1 rfl) ?_
        refine lv_ldc2 (v := (285870213051386505 : Int64)) C.1 C.2.1 C.2.2.2.1 (C.2.2.2.2.1 _ m_1541) dX10_origins_81 ?_
        refine lv_lmul C.1 C.2.1 dX10_origins_84 ?_
        refine lv_bipush (v := (58 : Int32)) C.1 C.2.1 dX10_origins_85 (by decide) ?_
        refine lv_lushr C.1 C.2.1 dX10_origins_87 rfl ?_
        refine lv_l2i C.1 C.2.1 dX10_origins_88 rfl ?_
        obtain ⟨g_5, hE⟩ := gd_e hE
        refine y_sqld C hZ g_5 dX10_origins_89 ?_
        refine lv_bipush (v := (64 : Int32)) C.1 C.2.1 dX10_origins_90 (by decide) ?_
        refine lv_imul C.1 C.2.1 dX10_origins_92 ?_
        refine lv_iadd C.1 C.2.1 dX10_origins_93 ?_
        obtain ⟨v_6, ev_6, hE⟩ := nm_e2 hE
        refine x_nmI ev_6 ?_
        refine lv_istore (lv' := [(15, .int v_6), (9, .long v_4), (13, .long v_3), (0, .ref x0), (4, .long x4), (6, .long x6), (8, .int x8), (11, .int x11), (12, .int x12)]) C.1 C.2.1 dX10_origins_94 hl (by decide) rfl (fun ls hl => ?_)
        refine lv_aload_n C.1 C.2.1 dX10_origins_96 rfl (lv_at hl 3 rfl) ?_
        obtain ⟨r_7, er_7, hE⟩ := cl_e hE
        refine gf_X10_10 C hW k_x0 er_7 dX10_origins_97 (fun k_r_7 => ?_)
        refine lv_iload C.1 C.2.1 dX10_origins_100 (lv_at hl 0 rfl) ?_
        refine lv_iconst (v := (1 : Int32)) C.1 C.2.1 dX10_origins_102 (by decide) ?_
        refine lv_iadd C.1 C.2.1 dX10_origins_103 ?_
        obtain ⟨g_8, hE⟩ := gd_e hE
        refine y_iald C hW k_r_7 g_8 dX10_origins_104 ?_
        obtain ⟨v_9, ev_9, hE⟩ := nm_e2 hE
        refine x_nmI ev_9 ?_
        refine lv_istore (lv' := [(16, .int v_9), (15, .int v_6), (9, .long v_4), (13, .long v_3), (0, .ref x0), (4, .long x4), (6, .long x6), (8, .int x8), (11, .int x11), (12, .int x12)]) C.1 C.2.1 dX10_origins_105 hl (by decide) rfl (fun ls hl => ?_)
        refine lv_aload_n C.1 C.2.1 dX10_origins_107 rfl (lv_at hl 4 rfl) ?_
        obtain ⟨r_10, er_10, hE⟩ := cl_e hE
        refine gf_X10_10 C hW k_x0 er_10 dX10_origins_108 (fun k_r_10 => ?_)
        refine lv_iload C.1 C.2.1 dX10_origins_111 (lv_at hl 1 rfl) ?_
        obtain ⟨g_11, hE⟩ := gd_e hE
        refine y_iald C hW k_r_10 g_11 dX10_origins_113 ?_
        obtain ⟨v_12, ev_12, hE⟩ := nm_e2 hE
        refine x_nmI ev_12 ?_
        refine lv_istore (lv' := [(17, .int v_12), (16, .int v_9), (15, .int v_6), (9, .long v_4), (13, .long v_3), (0, .ref x0), (4, .long x4), (6, .long x6), (8, .int x8), (11, .int x11), (12, .int x12)]) C.1 C.2.1 dX10_origins_114 hl (by decide) rfl (fun ls hl => ?_)
        exact bX10_origins_116 C hk_45 F k_x0 hkm hW hZ _ (lv_sub hl [5, 6, 7, 8, 3, 9, 10, 4, 1, 0] rfl) hE
set_option maxRecDepth 20000 in
theorem bX10_origins_12 {p : Program} {l : Launch} {e : Env} {s : State} {m : MethodId} {args : Array Value} {below : List Frame} {meth : Method} {c : Code} {X : Ec} {h0 : Hp} {o : Int64 × Hp} {F : Nat} (C : Cx X p s m args meth c RX10 cX10_origins 18 (some .long) "origins") {h : Hp} {x0 : Nat} {x1 : Int32} {x2 : Int32} {x4 : Int64} {x6 : Int64} {t0 : Int32} {H : Heap} {locs : List Loc} (k_x0 : hK h x0 = 10) (hkm : Km h0 h) (hW : Wx X h H) (hZ : va_S (aA (eB X)) s.heap H locs) (ls : Array Slot) (hl : lv_has ls 18 [(0, .ref x0), (1, .int x1), (2, .int x2), (4, .long x4), (6, .long x6)]) (hE : sX10_origins_12 F h x0 x1 x2 x4 x6 t0 = some o) : W p l e (rm 1 25) s m args below meth c H locs 0 0 (MQ below (QJ X h0 o.1 o.2) args s 0 0 (aA (eB X))) (F0 m 12 ls [.int t0]) := by
  refine lv_istore (lv' := [(8, .int t0), (0, .ref x0), (1, .int x1), (2, .int x2), (4, .long x4), (6, .long x6)]) C.1 C.2.1 dX10_origins_12 hl (by decide) rfl (fun ls hl => ?_)
  refine lv_aload_n C.1 C.2.1 dX10_origins_14 rfl (lv_at hl 1 rfl) ?_
  obtain ⟨r_1, er_1, hE⟩ := cl_e hE
  refine gf_X10_24 C hW k_x0 er_1 dX10_origins_15 (fun k_r_1 => ?_)
  refine lv_iload_n C.1 C.2.1 dX10_origins_18 rfl (lv_at hl 2 rfl) ?_
  refine lv_bipush (v := (64 : Int32)) C.1 C.2.1 dX10_origins_19 (by decide) ?_
  refine lv_imul C.1 C.2.1 dX10_origins_21 ?_
  refine lv_iload_n C.1 C.2.1 dX10_origins_22 rfl (lv_at hl 3 rfl) ?_
  refine lv_iadd C.1 C.2.1 dX10_origins_23 ?_
  obtain ⟨g_2, hE⟩ := gd_e hE
  refine y_lald C hW k_r_1 g_2 dX10_origins_24 ?_
  refine lv_lload C.1 C.2.1 dX10_origins_25 (lv_at hl 4 rfl) ?_
  refine lv_ldc2 (v := (-1 : Int64)) C.1 C.2.1 C.2.2.2.1 (C.2.2.2.2.1 _ m_1539) dX10_origins_27 ?_
  refine lv_lxor C.1 C.2.1 dX10_origins_30 ?_
  refine lv_land C.1 C.2.1 dX10_origins_31 ?_
  obtain ⟨v_3, ev_3, hE⟩ := nm_e2 hE
  refine x_nmJ ev_3 ?_
  refine lv_lstore (lv' := [(9, .long v_3), (8, .int t0), (0, .ref x0), (1, .int x1), (2, .int x2), (4, .long x4), (6, .long x6)]) C.1 C.2.1 dX10_origins_32 hl (by decide) rfl (fun ls hl => ?_)
  refine lv_iload_n C.1 C.2.1 dX10_origins_34 rfl (lv_at hl 3 rfl) ?_
  refine lv_iconst (v := (0 : Int32)) C.1 C.2.1 dX10_origins_35 (by decide) ?_
  refine lv_iload_n C.1 C.2.1 dX10_origins_36 rfl (lv_at hl 4 rfl) ?_
  obtain ⟨o_4, eo_4, hE⟩ := cl_e hE
  refine x_kI (o := o_4) (z_runS (As := [.int x1, .int (0 : Int32), .int x2]) (rest := []) C (ct_X10_cell l X eo_4) cw_X10_64 hW hZ rfl hl.1 (Nat.le_of_ble_eq_true rfl) rfl dX10_origins_37 ⟨Nat.le_of_ble_eq_true rfl, Nat.le_of_ble_eq_true rfl⟩ ⟨Nat.le_refl _, Nat.le_refl _⟩) hZ (fun _ _ hW km hZ => ?_)
  replace hkm := hkm.tr km
  replace k_x0 := km.at k_x0 (by decide)
  refine lv_istore (lv' := [(11, .int o_4.1), (9, .long v_3), (8, .int t0), (0, .ref x0), (1, .int x1), (2, .int x2), (4, .long x4), (6, .long x6)]) C.1 C.2.1 dX10_origins_40 hl (by decide) rfl (fun ls hl => ?_)
  refine lv_iconst (v := (0 : Int32)) C.1 C.2.1 dX10_origins_42 (by decide) ?_
  refine lv_istore (lv' := [(12, .int (0 : Int32)), (11, .int o_4.1), (9, .long v_3), (8, .int t0), (0, .ref x0), (1, .int x1), (2, .int x2), (4, .long x4), (6, .long x6)]) C.1 C.2.1 dX10_origins_43 hl (by decide) rfl (fun ls hl => ?_)
  exact bX10_origins_45 C F k_x0 hkm hW hZ _ (lv_sub hl [4, 7, 8, 3, 2, 1, 0] rfl) hE
set_option maxRecDepth 20000 in
theorem ct_X10_origins (l : Launch) (X : Ec) (F : Nat) {h : Hp} {x0 : Nat} {x1 : Int32} {x2 : Int32} {x3 : Int32} {x4 : Int64} {o : Int64 × Hp} (k_x0 : hK h x0 = 10) (hE : sX10_origins F h x0 x1 x2 x3 x4 = some o) : MetJ l yX10_origins cX10_origins 18 (some .long) 1 25 X [.ref x0, .int x1, .int x2, .int x3, .long x4] h o := by
  refine x_met (by decide) (Nat.le_of_ble_eq_true rfl) ?_
  intro p e s m below meth c ls C hl hW hZ
  have hl : lv_has ls 18 [(0, .ref x0), (1, .int x1), (2, .int x2), (3, .int x3), (4, .long x4)] := hl
  have hkm : Km h h := Km.rf h
  refine lv_lconst (v := (0 : Int64)) C.1 C.2.1 dX10_origins_0 (by decide) ?_
  refine lv_lstore (lv' := [(6, .long (0 : Int64)), (0, .ref x0), (1, .int x1), (2, .int x2), (3, .int x3), (4, .long x4)]) C.1 C.2.1 dX10_origins_1 hl (by decide) rfl (fun ls hl => ?_)
  refine lv_iload_n C.1 C.2.1 dX10_origins_3 rfl (lv_at hl 4 rfl) ?_
  refine lv_if_eq (tgt := 11) C.1 C.2.1 dX10_origins_4 (by decide) (fun c_1 => ?_) (fun c_1 => ?_)
  · have hE := br_p hE c_1
    refine lv_iconst (v := (2 : Int32)) C.1 C.2.1 dX10_origins_11 (by decide) ?_
    exact bX10_origins_12 C k_x0 hkm hW hZ _ (lv_sub hl [1, 2, 3, 5, 0] rfl) hE
  · have hE := br_n hE c_1
    refine lv_iconst (v := (1 : Int32)) C.1 C.2.1 dX10_origins_7 (by decide) ?_
    refine lv_goto (tgt := 12) C.1 C.2.1 dX10_origins_8 (by decide) ?_
    exact bX10_origins_12 C k_x0 hkm hW hZ _ (lv_sub hl [1, 2, 3, 5, 0] rfl) hE
