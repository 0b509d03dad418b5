theorem dX15_game_0 : decode cX15_game 0 = .ok (.iload_n 1, 1) := by decide +kernel
theorem dX15_game_1 : decode cX15_game 1 = .ok (.invokestatic 703, 3) := by decide +kernel
theorem dX15_game_4 : decode cX15_game 4 = .ok (.ifCond .eq 12, 3) := by decide +kernel
theorem dX15_game_7 : decode cX15_game 7 = .ok (.iload_n 2, 1) := by decide +kernel
theorem dX15_game_8 : decode cX15_game 8 = .ok (.ifCond .lt 8, 3) := by decide +kernel
theorem dX15_game_11 : decode cX15_game 11 = .ok (.iload_n 2, 1) := by decide +kernel
theorem dX15_game_12 : decode cX15_game 12 = .ok (.iconst 3, 1) := by decide +kernel
theorem dX15_game_13 : decode cX15_game 13 = .ok (.if_icmp .le 6, 3) := by decide +kernel
theorem dX15_game_16 : decode cX15_game 16 = .ok (.bipush (-101), 2) := by decide +kernel
theorem dX15_game_18 : decode cX15_game 18 = .ok (.ireturn, 1) := by decide +kernel
theorem dX15_game_19 : decode cX15_game 19 = .ok (.aload_n 0, 1) := by decide +kernel
theorem dX15_game_20 : decode cX15_game 20 = .ok (.getfield 314, 3) := by decide +kernel
theorem dX15_game_23 : decode cX15_game 23 = .ok (.iload_n 1, 1) := by decide +kernel
theorem dX15_game_24 : decode cX15_game 24 = .ok (.iaload, 1) := by decide +kernel
theorem dX15_game_25 : decode cX15_game 25 = .ok (.iconst (-1), 1) := by decide +kernel
theorem dX15_game_26 : decode cX15_game 26 = .ok (.if_icmp .ne 6, 3) := by decide +kernel
theorem dX15_game_29 : decode cX15_game 29 = .ok (.bipush (-102), 2) := by decide +kernel
theorem dX15_game_31 : decode cX15_game 31 = .ok (.ireturn, 1) := by decide +kernel
theorem dX15_game_32 : decode cX15_game 32 = .ok (.aload_n 0, 1) := by decide +kernel
theorem dX15_game_33 : decode cX15_game 33 = .ok (.iload_n 1, 1) := by decide +kernel
theorem dX15_game_34 : decode cX15_game 34 = .ok (.aload_n 0, 1) := by decide +kernel
theorem dX15_game_35 : decode cX15_game 35 = .ok (.getfield 314, 3) := by decide +kernel
theorem dX15_game_38 : decode cX15_game 38 = .ok (.iload_n 1, 1) := by decide +kernel
theorem dX15_game_39 : decode cX15_game 39 = .ok (.iaload, 1) := by decide +kernel
theorem dX15_game_40 : decode cX15_game 40 = .ok (.invokevirtual 706, 3) := by decide +kernel
theorem dX15_game_43 : decode cX15_game 43 = .ok (.astore_n 3, 1) := by decide +kernel
theorem dX15_game_44 : decode cX15_game 44 = .ok (.iload_n 2, 1) := by decide +kernel
theorem dX15_game_45 : decode cX15_game 45 = .ok (.ifCond .ne 10, 3) := by decide +kernel
theorem dX15_game_48 : decode cX15_game 48 = .ok (.aload_n 0, 1) := by decide +kernel
theorem dX15_game_49 : decode cX15_game 49 = .ok (.getfield 314, 3) := by decide +kernel
theorem dX15_game_52 : decode cX15_game 52 = .ok (.iload_n 1, 1) := by decide +kernel
theorem dX15_game_53 : decode cX15_game 53 = .ok (.iaload, 1) := by decide +kernel
theorem dX15_game_54 : decode cX15_game 54 = .ok (.ireturn, 1) := by decide +kernel
theorem dX15_game_55 : decode cX15_game 55 = .ok (.iload_n 2, 1) := by decide +kernel
theorem dX15_game_56 : decode cX15_game 56 = .ok (.iconst 3, 1) := by decide +kernel
theorem dX15_game_57 : decode cX15_game 57 = .ok (.if_icmp .ne 25, 3) := by decide +kernel
theorem dX15_game_60 : decode cX15_game 60 = .ok (.aload_n 0, 1) := by decide +kernel
theorem dX15_game_61 : decode cX15_game 61 = .ok (.aload_n 3, 1) := by decide +kernel
theorem dX15_game_62 : decode cX15_game 62 = .ok (.aload_n 0, 1) := by decide +kernel
theorem dX15_game_63 : decode cX15_game 63 = .ok (.getfield 288, 3) := by decide +kernel
theorem dX15_game_66 : decode cX15_game 66 = .ok (.invokevirtual 652, 3) := by decide +kernel
theorem dX15_game_69 : decode cX15_game 69 = .ok (.aload_n 0, 1) := by decide +kernel
theorem dX15_game_70 : decode cX15_game 70 = .ok (.aload_n 3, 1) := by decide +kernel
theorem dX15_game_71 : decode cX15_game 71 = .ok (.aload_n 0, 1) := by decide +kernel
theorem dX15_game_72 : decode cX15_game 72 = .ok (.getfield 288, 3) := by decide +kernel
theorem dX15_game_75 : decode cX15_game 75 = .ok (.getfield 575, 3) := by decide +kernel
theorem dX15_game_78 : decode cX15_game 78 = .ok (.invokevirtual 683, 3) := by decide +kernel
theorem dX15_game_81 : decode cX15_game 81 = .ok (.ireturn, 1) := by decide +kernel
theorem dX15_game_82 : decode cX15_game 82 = .ok (.iconst 0, 1) := by decide +kernel
theorem dX15_game_83 : decode cX15_game 83 = .ok (.istore 4, 2) := by decide +kernel
theorem dX15_game_85 : decode cX15_game 85 = .ok (.iconst 0, 1) := by decide +kernel
theorem dX15_game_86 : decode cX15_game 86 = .ok (.istore 5, 2) := by decide +kernel
theorem dX15_game_88 : decode cX15_game 88 = .ok (.iload 5, 2) := by decide +kernel
theorem dX15_game_90 : decode cX15_game 90 = .ok (.aload_n 0, 1) := by decide +kernel
theorem dX15_game_91 : decode cX15_game 91 = .ok (.getfield 314, 3) := by decide +kernel
theorem dX15_game_94 : decode cX15_game 94 = .ok (.iload_n 1, 1) := by decide +kernel
theorem dX15_game_95 : decode cX15_game 95 = .ok (.iaload, 1) := by decide +kernel
theorem dX15_game_96 : decode cX15_game 96 = .ok (.if_icmp .gt 34, 3) := by decide +kernel
theorem dX15_game_99 : decode cX15_game 99 = .ok (.iload 4, 2) := by decide +kernel
theorem dX15_game_101 : decode cX15_game 101 = .ok (.aload_n 0, 1) := by decide +kernel
theorem dX15_game_102 : decode cX15_game 102 = .ok (.aload_n 0, 1) := by decide +kernel
theorem dX15_game_103 : decode cX15_game 103 = .ok (.iload_n 1, 1) := by decide +kernel
theorem dX15_game_104 : decode cX15_game 104 = .ok (.iload 5, 2) := by decide +kernel
theorem dX15_game_106 : decode cX15_game 106 = .ok (.invokevirtual 706, 3) := by decide +kernel
theorem dX15_game_109 : decode cX15_game 109 = .ok (.aload_n 3, 1) := by decide +kernel
theorem dX15_game_110 : decode cX15_game 110 = .ok (.invokevirtual 658, 3) := by decide +kernel
theorem dX15_game_113 : decode cX15_game 113 = .ok (.ifCond .eq 7, 3) := by decide +kernel
theorem dX15_game_116 : decode cX15_game 116 = .ok (.iconst 1, 1) := by decide +kernel
theorem dX15_game_117 : decode cX15_game 117 = .ok (.goto 4, 3) := by decide +kernel
theorem dX15_game_120 : decode cX15_game 120 = .ok (.iconst 0, 1) := by decide +kernel
theorem dX15_game_121 : decode cX15_game 121 = .ok (.iadd, 1) := by decide +kernel
theorem dX15_game_122 : decode cX15_game 122 = .ok (.istore 4, 2) := by decide +kernel
theorem dX15_game_124 : decode cX15_game 124 = .ok (.iinc 5 1, 3) := by decide +kernel
theorem dX15_game_127 : decode cX15_game 127 = .ok (.goto (-39), 3) := by decide +kernel
theorem dX15_game_130 : decode cX15_game 130 = .ok (.iload_n 2, 1) := by decide +kernel
theorem dX15_game_131 : decode cX15_game 131 = .ok (.iconst 1, 1) := by decide +kernel
theorem dX15_game_132 : decode cX15_game 132 = .ok (.if_icmp .ne 8, 3) := by decide +kernel
theorem dX15_game_135 : decode cX15_game 135 = .ok (.iload 4, 2) := by decide +kernel
theorem dX15_game_137 : decode cX15_game 137 = .ok (.goto 23, 3) := by decide +kernel
theorem dX15_game_140 : decode cX15_game 140 = .ok (.iload 4, 2) := by decide +kernel
theorem dX15_game_142 : decode cX15_game 142 = .ok (.iconst 2, 1) := by decide +kernel
theorem dX15_game_143 : decode cX15_game 143 = .ok (.if_icmp .gt 12, 3) := by decide +kernel
theorem dX15_game_146 : decode cX15_game 146 = .ok (.aload_n 3, 1) := by decide +kernel
theorem dX15_game_147 : decode cX15_game 147 = .ok (.getfield 449, 3) := by decide +kernel
theorem dX15_game_150 : decode cX15_game 150 = .ok (.bipush 100, 2) := by decide +kernel
theorem dX15_game_152 : decode cX15_game 152 = .ok (.if_icmp .lt 7, 3) := by decide +kernel
theorem dX15_game_155 : decode cX15_game 155 = .ok (.iconst 1, 1) := by decide +kernel
theorem dX15_game_156 : decode cX15_game 156 = .ok (.goto 4, 3) := by decide +kernel
theorem dX15_game_159 : decode cX15_game 159 = .ok (.iconst 0, 1) := by decide +kernel
theorem dX15_game_160 : decode cX15_game 160 = .ok (.ireturn, 1) := by decide +kernel
set_option maxRecDepth 20000 in
theorem moX15_game_16 {o : Int32 × Hp} {F : Nat} {h : Hp} (hE : sX15_game_16 F h  = some o) : Le h o.2 := by
  exact le_some2 hE
set_option maxRecDepth 20000 in
theorem moX15_game_160 {o : Int32 × Hp} {F : Nat} {h : Hp} {t0 : Int32} (hE : sX15_game_160 F h  t0 = some o) : Le h o.2 := by
  exact le_some2 hE
set_option maxRecDepth 20000 in
theorem moX15_game_155 {o : Int32 × Hp} {F : Nat} {h : Hp} (hE : sX15_game_155 F h  = some o) : Le h o.2 := by
  exact moX15_game_160 hE
set_option maxRecDepth 20000 in
theorem moX15_game_121 {o : Int32 × Hp} {k_88 : Hp → Nat → Int32 → Int32 → Nat → Int32 → Int32 → Option (Int32 × Hp)} {F : Nat} (mk_88 : ∀ (h : Hp) (x0 : Nat) (x1 : Int32) (x2 : Int32) (x3 : Nat) (x4 : Int32) (x5 : Int32), k_88 h x0 x1 x2 x3 x4 x5 = some o → Le h o.2) {h : Hp} {x0 : Nat} {x1 : Int32} {x2 : Int32} {x3 : Nat} {x5 : Int32} {t0 : Int32} {t1 : Int32} (hE : sX15_game_121 F k_88 h x0 x1 x2 x3 x5 t0 t1 = some o) : Le h o.2 := by
  obtain ⟨v_1, ev_1, hE⟩ := nm_e2 hE
  obtain ⟨v_2, ev_2, hE⟩ := nm_e2 hE
  exact mk_88 _ _ _ _ _ _ _ hE
set_option maxRecDepth 20000 in
theorem moX15_game_113 {o : Int32 × Hp} {k_88 : Hp → Nat → Int32 → Int32 → Nat → Int32 → Int32 → Option (Int32 × Hp)} {F : Nat} (mk_88 : ∀ (h : Hp) (x0 : Nat) (x1 : Int32) (x2 : Int32) (x3 : Nat) (x4 : Int32) (x5 : Int32), k_88 h x0 x1 x2 x3 x4 x5 = some o → Le h o.2) {h : Hp} {x0 : Nat} {x1 : Int32} {x2 : Int32} {x3 : Nat} {x5 : Int32} {t0 : Int32} {t1 : Int32} (hE : sX15_game_113 F k_88 h x0 x1 x2 x3 x5 t0 t1 = some o) : Le h o.2 := by
  rcases br_e hE with ⟨_, hE⟩ | ⟨_, hE⟩
  · exact moX15_game_121 mk_88 hE
  · exact moX15_game_121 mk_88 hE
set_option maxRecDepth 20000 in
theorem moX15_game_109 {o : Int32 × Hp} {k_88 : Hp → Nat → Int32 → Int32 → Nat → Int32 → Int32 → Option (Int32 × Hp)} {F : Nat} (mk_88 : ∀ (h : Hp) (x0 : Nat) (x1 : Int32) (x2 : Int32) (x3 : Nat) (x4 : Int32) (x5 : Int32), k_88 h x0 x1 x2 x3 x4 x5 = some o → Le h o.2) {h : Hp} {x0 : Nat} {x1 : Int32} {x2 : Int32} {x3 : Nat} {x5 : Int32} {t0 : Nat} {t1 : Nat} {t2 : Int32} (hE : sX15_game_109 F k_88 h x0 x1 x2 x3 x5 t0 t1 t2 = some o) : Le h o.2 := by
  obtain ⟨o_1, eo_1, hE⟩ := cl_e hE
  refine (moX15_isSame eo_1).tr ?_
  exact moX15_game_113 mk_88 hE
set_option maxRecDepth 20000 in
theorem moX15_game_88 {o : Int32 × Hp} {F : Nat} : ∀ (f : Nat) {h : Hp} {x0 : Nat} {x1 : Int32} {x2 : Int32} {x3 : Nat} {x4 : Int32} {x5 : Int32}, sX15_game_88 F f h x0 x1 x2 x3 x4 x5 = some o → Le h o.2 := by
  intro f
  induction f with
  | zero =>
    intro h x0 x1 x2 x3 x4 x5 hE
    rw [sX15_game_88] at hE
    cases hE
  | succ f ih =>
    intro h x0 x1 x2 x3 x4 x5 hE
    rw [sX15_game_88] at hE
    have mk_88 : ∀ (h : Hp) (x0 : Nat) (x1 : Int32) (x2 : Int32) (x3 : Nat) (x4 : Int32) (x5 : Int32), sX15_game_88 F f h x0 x1 x2 x3 x4 x5 = some o → Le h o.2 := fun h x0 x1 x2 x3 x4 x5 hE => ih hE
    obtain ⟨r_1, er_1, hE⟩ := cl_e hE
    obtain ⟨g_2, hE⟩ := gd_e hE
    rcases br_e hE with ⟨_, hE⟩ | ⟨_, hE⟩
    · rcases br_e hE with ⟨_, hE⟩ | ⟨_, hE⟩
      · exact moX15_game_160 hE
      · rcases br_e hE with ⟨_, hE⟩ | ⟨_, hE⟩
        · exact moX15_game_155 hE
        · rcases br_e hE with ⟨_, hE⟩ | ⟨_, hE⟩
          · exact moX15_game_160 hE
          · exact moX15_game_155 hE
    · obtain ⟨o_7, eo_7, hE⟩ := cl_e hE
      refine (moX15_gameBoard eo_7).tr ?_
      exact moX15_game_109 mk_88 hE
set_option maxRecDepth 20000 in
theorem moX15_game_81 {o : Int32 × Hp} {F : Nat} {h : Hp} {t0 : Int32} (hE : sX15_game_81 F h  t0 = some o) : Le h o.2 := by
  exact le_some2 hE
set_option maxRecDepth 20000 in
theorem moX15_game_69 {o : Int32 × Hp} {F : Nat} {h : Hp} {x0 : Nat} {x3 : Nat} (hE : sX15_game_69 F h x0 x3 = some o) : Le h o.2 := by
  obtain ⟨r_1, er_1, hE⟩ := cl_e hE
  obtain ⟨o_2, eo_2, hE⟩ := cl_e hE
  refine (moX15_endedBy eo_2).tr ?_
  exact moX15_game_81 hE
set_option maxRecDepth 20000 in
theorem moX15_game_43 {o : Int32 × Hp} {F : Nat} {h : Hp} {x0 : Nat} {x1 : Int32} {x2 : Int32} {t0 : Nat} (hE : sX15_game_43 F h x0 x1 x2 t0 = some o) : Le h o.2 := by
  rcases br_e hE with ⟨_, hE⟩ | ⟨_, hE⟩
  · obtain ⟨r_5, er_5, hE⟩ := cl_e hE
    obtain ⟨g_6, hE⟩ := gd_e hE
    exact le_some2 hE
  · rcases br_e hE with ⟨_, hE⟩ | ⟨_, hE⟩
    · obtain ⟨r_3, er_3, hE⟩ := cl_e hE
      obtain ⟨o_4, eo_4, hE⟩ := cl_e hE
      refine (moX15_legal eo_4).tr ?_
      exact moX15_game_69 hE
    · exact moX15_game_88 _ hE
set_option maxRecDepth 20000 in
theorem moX15_game_4 {o : Int32 × Hp} {F : Nat} {h : Hp} {x0 : Nat} {x1 : Int32} {x2 : Int32} {t0 : Int32} (hE : sX15_game_4 F h x0 x1 x2 t0 = some o) : Le h o.2 := by
  rcases br_e hE with ⟨_, hE⟩ | ⟨_, hE⟩
  · exact moX15_game_16 hE
  · rcases br_e hE with ⟨_, hE⟩ | ⟨_, hE⟩
    · exact moX15_game_16 hE
    · rcases br_e hE with ⟨_, hE⟩ | ⟨_, hE⟩
      · obtain ⟨r_4, er_4, hE⟩ := cl_e hE
        obtain ⟨g_5, hE⟩ := gd_e hE
        rcases br_e hE with ⟨_, hE⟩ | ⟨_, hE⟩
        · exact le_some2 hE
        · obtain ⟨r_7, er_7, hE⟩ := cl_e hE
          obtain ⟨g_8, hE⟩ := gd_e hE
          obtain ⟨o_9, eo_9, hE⟩ := cl_e hE
          refine (moX15_gameBoard eo_9).tr ?_
          exact moX15_game_43 hE
      · exact moX15_game_16 hE
set_option maxRecDepth 20000 in
theorem moX15_game {o : Int32 × Hp} {F : Nat} {h : Hp} {x0 : Nat} {x1 : Int32} {x2 : Int32} (hE : sX15_game F h x0 x1 x2 = some o) : Le h o.2 := by
  obtain ⟨o_1, eo_1, hE⟩ := cl_e hE
  refine (moX15_isGame eo_1).tr ?_
  exact moX15_game_4 hE
set_option maxRecDepth 20000 in
theorem bX15_game_16 {p : Program} {l : Launch} {e : Env} {s : State} {m : MethodId} {args : Array Value} {below : List Frame} {meth : Method} {c : Code} {X : Ec} {h0 : Hp} {o : Int32 × Hp} {F : Nat} (C : Cx X p s m args meth c RX15 cX15_game 6 (some .int) "game") {h : Hp} {H : Heap} {locs : List Loc} (hkl : Kl h0 h) (hW : Wx X h H) (hZ : va_S (aA (eB X)) s.heap H locs) (ls : Array Slot) (hl : lv_has ls 6 []) (hE : sX15_game_16 F h  = some o) : W p l e (rmA 9 238 h0 o.2) s m args below meth c H locs (hS h - hS h0) (hL h - hL h0) (MQ below (QIA X h0 o.1 o.2) args s (hS o.2 - hS h0) (hL o.2 - hL h0) (aA (eB X))) (F0 m 16 ls []) := by
  refine lv_bipush (v := (-101 : Int32)) C.1 C.2.1 dX15_game_16 (by decide) ?_
  exact x_iretA C rfl rfl hW hZ hkl hE dX15_game_18
set_option maxRecDepth 20000 in
theorem bX15_game_160 {p : Program} {l : Launch} {e : Env} {s : State} {m : MethodId} {args : Array Value} {below : List Frame} {meth : Method} {c : Code} {X : Ec} {h0 : Hp} {o : Int32 × Hp} {F : Nat} (C : Cx X p s m args meth c RX15 cX15_game 6 (some .int) "game") {h : Hp} {t0 : Int32} {H : Heap} {locs : List Loc} (hkl : Kl h0 h) (hW : Wx X h H) (hZ : va_S (aA (eB X)) s.heap H locs) (ls : Array Slot) (hl : lv_has ls 6 []) (hE : sX15_game_160 F h  t0 = some o) : W p l e (rmA 9 238 h0 o.2) s m args below meth c H locs (hS h - hS h0) (hL h - hL h0) (MQ below (QIA X h0 o.1 o.2) args s (hS o.2 - hS h0) (hL o.2 - hL h0) (aA (eB X))) (F0 m 160 ls [.int t0]) := by
  exact x_iretA C rfl rfl hW hZ hkl hE dX15_game_160
set_option maxRecDepth 20000 in
theorem bX15_game_155 {p : Program} {l : Launch} {e : Env} {s : State} {m : MethodId} {args : Array Value} {below : List Frame} {meth : Method} {c : Code} {X : Ec} {h0 : Hp} {o : Int32 × Hp} {F : Nat} (C : Cx X p s m args meth c RX15 cX15_game 6 (some .int) "game") {h : Hp} {H : Heap} {locs : List Loc} (hkl : Kl h0 h) (hW : Wx X h H) (hZ : va_S (aA (eB X)) s.heap H locs) (ls : Array Slot) (hl : lv_has ls 6 []) (hE : sX15_game_155 F h  = some o) : W p l e (rmA 9 238 h0 o.2) s m args below meth c H locs (hS h - hS h0) (hL h - hL h0) (MQ below (QIA X h0 o.1 o.2) args s (hS o.2 - hS h0) (hL o.2 - hL h0) (aA (eB X))) (F0 m 155 ls []) := by
  refine lv_iconst (v := (1 : Int32)) C.1 C.2.1 dX15_game_155 (by decide) ?_
  refine lv_goto (tgt := 160) C.1 C.2.1 dX15_game_156 (by decide) ?_
  exact bX15_game_160 C hkl hW hZ _ (lv_sub hl [] rfl) hE
set_option maxRecDepth 20000 in
theorem bX15_game_121 {p : Program} {l : Launch} {e : Env} {s : State} {m : MethodId} {args : Array Value} {below : List Frame} {meth : Method} {c : Code} {X : Ec} {h0 : Hp} {o : Int32 × Hp} {k_88 : Hp → Nat → Int32 → Int32 → Nat → Int32 → Int32 → Option (Int32 × Hp)} {F : Nat} (C : Cx X p s m args meth c RX15 cX15_game 6 (some .int) "game") (hk_88 : ∀ (h : Hp) (x0 : Nat) (x1 : Int32) (x2 : Int32) (x3 : Nat) (x4 : Int32) (x5 : Int32) (H : Heap) (locs : List Loc), hK h x0 = 15 → hK h x3 = 12 → Kl h0 h → Wx X h H → va_S (aA (eB X)) s.heap H locs → ∀ (ls : Array Slot), lv_has ls 6 [(0, .ref x0), (1, .int x1), (2, .int x2), (3, .ref x3), (4, .int x4), (5, .int x5)] → k_88 h x0 x1 x2 x3 x4 x5 = some o → W p l e (rmA 9 238 h0 o.2) s m args below meth c H locs (hS h - hS h0) (hL h - hL h0) (MQ below (QIA X h0 o.1 o.2) args s (hS o.2 - hS h0) (hL o.2 - hL h0) (aA (eB X))) (F0 m 88 ls [])) (mk_88 : ∀ (h : Hp) (x0 : Nat) (x1 : Int32) (x2 : Int32) (x3 : Nat) (x4 : Int32) (x5 : Int32), k_88 h x0 x1 x2 x3 x4 x5 = some o → Le h o.2) {h : Hp} {x0 : Nat} {x1 : Int32} {x2 : Int32} {x3 : Nat} {x5 : Int32} {t0 : Int32} {t1 : Int32} {H : Heap} {locs : List Loc} (k_x0 : hK h x0 = 15) (k_x3 : hK h x3 = 12) (hkl : Kl h0 h) (hW : Wx X h H) (hZ : va_S (aA (eB X)) s.heap H locs) (ls : Array Slot) (hl : lv_has ls 6 [(0, .ref x0), (1, .int x1), (2, .int x2), (3, .ref x3), (5, .int x5)]) (hE : sX15_game_121 F k_88 h x0 x1 x2 x3 x5 t0 t1 = some o) : W p l e (rmA 9 238 h0 o.2) s m args below meth c H locs (hS h - hS h0) (hL h - hL h0) (MQ below (QIA X h0 o.1 o.2) args s (hS o.2 - hS h0) (hL o.2 - hL h0) (aA (eB X))) (F0 m 121 ls [.int t0, .int t1]) := by
  refine lv_iadd C.1 C.2.1 dX15_game_121 ?_
  obtain ⟨v_1, ev_1, hE⟩ := nm_e2 hE
  refine x_nmI ev_1 ?_
  refine lv_istore (lv' := [(4, .int v_1), (0, .ref x0), (1, .int x1), (2, .int x2), (3, .ref x3), (5, .int x5)]) C.1 C.2.1 dX15_game_122 hl (by decide) rfl (fun ls hl => ?_)
  obtain ⟨v_2, ev_2, hE⟩ := nm_e2 hE
  refine lv_iinc (v := v_2) (lv' := [(5, .int v_2), (4, .int v_1), (0, .ref x0), (1, .int x1), (2, .int x2), (3, .ref x3)]) C.1 C.2.1 dX15_game_124 hl (k := 5) rfl (by rw [ev_2]; rfl) (by decide) rfl (fun ls hl => ?_)
  refine lv_goto (tgt := 88) C.1 C.2.1 dX15_game_127 (by decide) ?_
  exact hk_88 _ _ _ _ _ _ _ _ _ k_x0 k_x3 hkl hW hZ _ (lv_sub hl [2, 3, 4, 5, 1, 0] rfl) hE
set_option maxRecDepth 20000 in
theorem bX15_game_113 {p : Program} {l : Launch} {e : Env} {s : State} {m : MethodId} {args : Array Value} {below : List Frame} {meth : Method} {c : Code} {X : Ec} {h0 : Hp} {o : Int32 × Hp} {k_88 : Hp → Nat → Int32 → Int32 → Nat → Int32 → Int32 → Option (Int32 × Hp)} {F : Nat} (C : Cx X p s m args meth c RX15 cX15_game 6 (some .int) "game") (hk_88 : ∀ (h : Hp) (x0 : Nat) (x1 : Int32) (x2 : Int32) (x3 : Nat) (x4 : Int32) (x5 : Int32) (H : Heap) (locs : List Loc), hK h x0 = 15 → hK h x3 = 12 → Kl h0 h → Wx X h H → va_S (aA (eB X)) s.heap H locs → ∀ (ls : Array Slot), lv_has ls 6 [(0, .ref x0), (1, .int x1), (2, .int x2), (3, .ref x3), (4, .int x4), (5, .int x5)] → k_88 h x0 x1 x2 x3 x4 x5 = some o → W p l e (rmA 9 238 h0 o.2) s m args below meth c H locs (hS h - hS h0) (hL h - hL h0) (MQ below (QIA X h0 o.1 o.2) args s (hS o.2 - hS h0) (hL o.2 - hL h0) (aA (eB X))) (F0 m 88 ls [])) (mk_88 : ∀ (h : Hp) (x0 : Nat) (x1 : Int32) (x2 : Int32) (x3 : Nat) (x4 : Int32) (x5 : Int32), k_88 h x0 x1 x2 x3 x4 x5 = some o → Le h o.2) {h : Hp} {x0 : Nat} {x1 : Int32} {x2 : Int32} {x3 : Nat} {x5 : Int32} {t0 : Int32} {t1 : Int32} {H : Heap} {locs : List Loc} (k_x0 : hK h x0 = 15) (k_x3 : hK h x3 = 12) (hkl : Kl h0 h) (hW : Wx X h H) (hZ : va_S (aA (eB X)) s.heap H locs) (ls : Array Slot) (hl : lv_has ls 6 [(0, .ref x0), (1, .int x1), (2, .int x2), (3, .ref x3), (5, .int x5)]) (hE : sX15_game_113 F k_88 h x0 x1 x2 x3 x5 t0 t1 = some o) : W p l e (rmA 9 238 h0 o.2) s m args below meth c H locs (hS h - hS h0) (hL h - hL h0) (MQ below (QIA X h0 o.1 o.2) args s (hS o.2 - hS h0) (hL o.2 - hL h0) (aA (eB X))) (F0 m 113 ls [.int t0, .int t1]) := by
  refine lv_if_eq (tgt := 120) C.1 C.2.1 dX15_game_113 (by decide) (fun c_1 => ?_) (fun c_1 => ?_)
  · have hE := br_p hE c_1
    refine lv_iconst (v := (0 : Int32)) C.1 C.2.1 dX15_game_120 (by decide) ?_
    exact bX15_game_121 C hk_88 mk_88 k_x0 k_x3 hkl hW hZ _ (lv_sub hl [0, 1, 2, 3, 4] rfl) hE
  · have hE := br_n hE c_1
    refine lv_iconst (v := (1 : Int32)) C.1 C.2.1 dX15_game_116 (by decide) ?_
    refine lv_goto (tgt := 121) C.1 C.2.1 dX15_game_117 (by decide) ?_
    exact bX15_game_121 C hk_88 mk_88 k_x0 k_x3 hkl hW hZ _ (lv_sub hl [0, 1, 2, 3, 4] rfl) hE
set_option maxRecDepth 20000 in
theorem bX15_game_109 {p : Program} {l : Launch} {e : Env} {s : State} {m : MethodId} {args : Array Value} {below : List Frame} {meth : Method} {c : Code} {X : Ec} {h0 : Hp} {o : Int32 × Hp} {k_88 : Hp → Nat → Int32 → Int32 → Nat → Int32 → Int32 → Option (Int32 × Hp)} {F : Nat} (C : Cx X p s m args meth c RX15 cX15_game 6 (some .int) "game") (hk_88 : ∀ (h : Hp) (x0 : Nat) (x1 : Int32) (x2 : Int32) (x3 : Nat) (x4 : Int32) (x5 : Int32) (H : Heap) (locs : List Loc), hK h x0 = 15 → hK h x3 = 12 → Kl h0 h → Wx X h H → va_S (aA (eB X)) s.heap H locs → ∀ (ls : Array Slot), lv_has ls 6 [(0, .ref x0), (1, .int x1), (2, .int x2), (3, .ref x3), (4, .int x4), (5, .int x5)] → k_88 h x0 x1 x2 x3 x4 x5 = some o → W p l e (rmA 9 238 h0 o.2) s m args below meth c H locs (hS h - hS h0) (hL h - hL h0) (MQ below (QIA X h0 o.1 o.2) args s (hS o.2 - hS h0) (hL o.2 - hL h0) (aA (eB X))) (F0 m 88 ls [])) (mk_88 : ∀ (h : Hp) (x0 : Nat) (x1 : Int32) (x2 : Int32) (x3 : Nat) (x4 : Int32) (x5 : Int32), k_88 h x0 x1 x2 x3 x4 x5 = some o → Le h o.2) {h : Hp} {x0 : Nat} {x1 : Int32} {x2 : Int32} {x3 : Nat} {x5 : Int32} {t0 : Nat} {t1 : Nat} {t2 : Int32} {H : Heap} {locs : List Loc} (k_x0 : hK h x0 = 15) (k_x3 : hK h x3 = 12) (k_t0 : hK h t0 = 12) (k_t1 : hK h t1 = 15) (hkl : Kl h0 h) (hW : Wx X h H) (hZ : va_S (aA (eB X)) s.heap H locs) (ls : Array Slot) (hl : lv_has ls 6 [(0, .ref x0), (1, .int x1), (2, .int x2), (3, .ref x3), (5, .int x5)]) (hE : sX15_game_109 F k_88 h x0 x1 x2 x3 x5 t0 t1 t2 = some o) : W p l e (rmA 9 238 h0 o.2) s m args below meth c H locs (hS h - hS h0) (hL h - hL h0) (MQ below (QIA X h0 o.1 o.2) args s (hS o.2 - hS h0) (hL o.2 - hL h0) (aA (eB X))) (F0 m 109 ls [.ref t0, .ref t1, .int t2]) := by
  refine lv_aload_n C.1 C.2.1 dX15_game_109 rfl (lv_at hl 3 rfl) ?_
  obtain ⟨o_1, eo_1, hE⟩ := cl_e hE
  have m1 := moX15_isSame eo_1
  have m2 := moX15_game_113 mk_88 hE
  refine x_kI (o := o_1) (z_runV (As := [.ref t0, .ref x3]) (rest := [.int t2]) C (ct_X15_isSame l X F k_t1 k_t0 k_x3 eo_1) cw_X15_658 hW hZ k_t1 (by decide) rfl rfl rfl hl.1 (Nat.le_of_ble_eq_true rfl) rfl dX15_game_110 ⟨Nat.le_of_ble_eq_true rfl, Nat.le_of_ble_eq_true rfl⟩ (rm_ok0 hkl m1 m2)) hZ (fun _ _ hW km hZ => ?_)
  replace hkl := hkl.tr km.l
  refine x_wc km ?_
  replace k_x0 := km.at k_x0 (by decide)
  replace k_x3 := km.at k_x3 (by decide)
  exact bX15_game_113 C hk_88 mk_88 k_x0 k_x3 hkl hW hZ _ (lv_sub hl [0, 1, 2, 3, 4] rfl) hE
set_option maxRecDepth 20000 in
theorem bX15_game_88 {p : Program} {l : Launch} {e : Env} {s : State} {m : MethodId} {args : Array Value} {below : List Frame} {meth : Method} {c : Code} {X : Ec} {h0 : Hp} {o : Int32 × Hp} {F : Nat} (C : Cx X p s m args meth c RX15 cX15_game 6 (some .int) "game") : ∀ (f : Nat) {h : Hp} {x0 : Nat} {x1 : Int32} {x2 : Int32} {x3 : Nat} {x4 : Int32} {x5 : Int32} {H : Heap} {locs : List Loc} (k_x0 : hK h x0 = 15) (k_x3 : hK h x3 = 12), Kl h0 h → Wx X h H → va_S (aA (eB X)) s.heap H locs → ∀ (ls : Array Slot), lv_has ls 6 [(0, .ref x0), (1, .int x1), (2, .int x2), (3, .ref x3), (4, .int x4), (5, .int x5)] → sX15_game_88 F f h x0 x1 x2 x3 x4 x5 = some o → W p l e (rmA 9 238 h0 o.2) s m args below meth c H locs (hS h - hS h0) (hL h - hL h0) (MQ below (QIA X h0 o.1 o.2) args s (hS o.2 - hS h0) (hL o.2 - hL h0) (aA (eB X))) (F0 m 88 ls []) := by
  intro f
  induction f with
  | zero =>
    intro h x0 x1 x2 x3 x4 x5 H locs k_x0 k_x3 hkl hW hZ ls hl hE
    rw [sX15_game_88] at hE
    cases hE
  | succ f ih =>
    intro h x0 x1 x2 x3 x4 x5 H locs k_x0 k_x3 hkl hW hZ ls hl hE
    rw [sX15_game_88] at hE
    have mk_88 : ∀ (h : Hp) (x0 : Nat) (x1 : Int32) (x2 : Int32) (x3 : Nat) (x4 : Int32) (x5 : Int32), sX15_game_88 F f h x0 x1 x2 x3 x4 x5 = some o → Le h o.2 := fun h x0 x1 x2 x3 x4 x5 hE => moX15_game_88 _ hE
    have hk_88 : ∀ (h : Hp) (x0 : Nat) (x1 : Int32) (x2 : Int32) (x3 : Nat) (x4 : Int32) (x5 : Int32) (H : Heap) (locs : List Loc), hK h x0 = 15 → hK h x3 = 12 → Kl h0 h → Wx X h H → va_S (aA (eB X)) s.heap H locs → ∀ (ls : Array Slot), lv_has ls 6 [(0, .ref x0), (1, .int x1), (2, .int x2), (3, .ref x3), (4, .int x4), (5, .int x5)] → sX15_game_88 F f h x0 x1 x2 x3 x4 x5 = some o → W p l e (rmA 9 238 h0 o.2) s m args below meth c H locs (hS h - hS h0) (hL h - hL h0) (MQ below (QIA X h0 o.1 o.2) args s (hS o.2 - hS h0) (hL o.2 - hL h0) (aA (eB X))) (F0 m 88 ls []) := fun h x0 x1 x2 x3 x4 x5 H locs k_x0 k_x3 a b c ls hl hE => ih k_x0 k_x3 a b c ls hl hE
    refine lv_iload C.1 C.2.1 dX15_game_88 (lv_at hl 5 rfl) ?_
    refine lv_aload_n C.1 C.2.1 dX15_game_90 rfl (lv_at hl 0 rfl) ?_
    obtain ⟨r_1, er_1, hE⟩ := cl_e hE
    refine gf_X15_314 C hW k_x0 er_1 dX15_game_91 (fun k_r_1 => ?_)
    refine lv_iload_n C.1 C.2.1 dX15_game_94 rfl (lv_at hl 1 rfl) ?_
    obtain ⟨g_2, hE⟩ := gd_e hE
    refine y_iald C hW k_r_1 g_2 dX15_game_95 ?_
    refine lv_icmp_gt (tgt := 130) C.1 C.2.1 dX15_game_96 (by decide) (fun c_3 => ?_) (fun c_3 => ?_)
    · have hE := br_p hE c_3
      refine lv_iload_n C.1 C.2.1 dX15_game_130 rfl (lv_at hl 2 rfl) ?_
      refine lv_iconst (v := (1 : Int32)) C.1 C.2.1 dX15_game_131 (by decide) ?_
      refine lv_icmp_ne (tgt := 140) C.1 C.2.1 dX15_game_132 (by decide) (fun c_4 => ?_) (fun c_4 => ?_)
      · have hE := br_n hE c_4
        refine lv_iload C.1 C.2.1 dX15_game_140 (lv_at hl 4 rfl) ?_
        refine lv_iconst (v := (2 : Int32)) C.1 C.2.1 dX15_game_142 (by decide) ?_
        refine lv_icmp_gt (tgt := 155) C.1 C.2.1 dX15_game_143 (by decide) (fun c_5 => ?_) (fun c_5 => ?_)
        · have hE := br_p hE c_5
          exact bX15_game_155 C hkl hW hZ _ (lv_sub hl [] rfl) hE
        · have hE := br_n hE c_5
          refine lv_aload_n C.1 C.2.1 dX15_game_146 rfl (lv_at hl 3 rfl) ?_
          refine gf_X15_449 C hW k_x3 dX15_game_147 ?_
          refine lv_bipush (v := (100 : Int32)) C.1 C.2.1 dX15_game_150 (by decide) ?_
          refine lv_icmp_lt (tgt := 159) C.1 C.2.1 dX15_game_152 (by decide) (fun c_6 => ?_) (fun c_6 => ?_)
          · have hE := br_p hE c_6
            refine lv_iconst (v := (0 : Int32)) C.1 C.2.1 dX15_game_159 (by decide) ?_
            exact bX15_game_160 C hkl hW hZ _ (lv_sub hl [] rfl) hE
          · have hE := br_n hE c_6
            exact bX15_game_155 C hkl hW hZ _ (lv_sub hl [] rfl) hE
      · have hE := br_p hE c_4
        refine lv_iload C.1 C.2.1 dX15_game_135 (lv_at hl 4 rfl) ?_
        refine lv_goto (tgt := 160) C.1 C.2.1 dX15_game_137 (by decide) ?_
        exact bX15_game_160 C hkl hW hZ _ (lv_sub hl [] rfl) hE
    · have hE := br_n hE c_3
      refine lv_iload C.1 C.2.1 dX15_game_99 (lv_at hl 4 rfl) ?_
      refine lv_aload_n C.1 C.2.1 dX15_game_101 rfl (lv_at hl 0 rfl) ?_
      refine lv_aload_n C.1 C.2.1 dX15_game_102 rfl (lv_at hl 0 rfl) ?_
      refine lv_iload_n C.1 C.2.1 dX15_game_103 rfl (lv_at hl 1 rfl) ?_
      refine lv_iload C.1 C.2.1 dX15_game_104 (lv_at hl 5 rfl) ?_
      obtain ⟨o_7, eo_7, hE⟩ := cl_e hE
      have m1 := moX15_gameBoard eo_7
      have m2 := moX15_game_109 mk_88 hE
      refine x_kRA (o := o_7) hkl (z_runV (As := [.int x1, .int x5]) (rest := [.ref x0, .int x4]) C (ct_X15_gameBoard l X k_x0 eo_7) cw_X15_706 hW hZ k_x0 (by decide) rfl rfl rfl hl.1 (Nat.le_of_ble_eq_true rfl) rfl dX15_game_106 ⟨Nat.le_of_ble_eq_true rfl, Nat.le_of_ble_eq_true rfl⟩ (rm_ok hkl m1 m2)) hZ (fun _ _ hW km k_o_7_1 hZ => ?_)
      replace hkl := hkl.tr km
      replace k_x0 := km.at k_x0 (by decide)
      replace k_x3 := km.at k_x3 (by decide)
      exact bX15_game_109 C hk_88 mk_88 k_x0 k_x3 k_o_7_1 k_x0 hkl hW hZ _ (lv_sub hl [0, 1, 2, 3, 5] rfl) hE
set_option maxRecDepth 20000 in
theorem bX15_game_81 {p : Program} {l : Launch} {e : Env} {s : State} {m : MethodId} {args : Array Value} {below : List Frame} {meth : Method} {c : Code} {X : Ec} {h0 : Hp} {o : Int32 × Hp} {F : Nat} (C : Cx X p s m args meth c RX15 cX15_game 6 (some .int) "game") {h : Hp} {t0 : Int32} {H : Heap} {locs : List Loc} (hkl : Kl h0 h) (hW : Wx X h H) (hZ : va_S (aA (eB X)) s.heap H locs) (ls : Array Slot) (hl : lv_has ls 6 []) (hE : sX15_game_81 F h  t0 = some o) : W p l e (rmA 9 238 h0 o.2) s m args below meth c H locs (hS h - hS h0) (hL h - hL h0) (MQ below (QIA X h0 o.1 o.2) args s (hS o.2 - hS h0) (hL o.2 - hL h0) (aA (eB X))) (F0 m 81 ls [.int t0]) := by
  exact x_iretA C rfl rfl hW hZ hkl hE dX15_game_81
set_option maxRecDepth 20000 in
theorem bX15_game_69 {p : Program} {l : Launch} {e : Env} {s : State} {m : MethodId} {args : Array Value} {below : List Frame} {meth : Method} {c : Code} {X : Ec} {h0 : Hp} {o : Int32 × Hp} {F : Nat} (C : Cx X p s m args meth c RX15 cX15_game 6 (some .int) "game") {h : Hp} {x0 : Nat} {x3 : Nat} {H : Heap} {locs : List Loc} (k_x0 : hK h x0 = 15) (k_x3 : hK h x3 = 12) (hkl : Kl h0 h) (hW : Wx X h H) (hZ : va_S (aA (eB X)) s.heap H locs) (ls : Array Slot) (hl : lv_has ls 6 [(0, .ref x0), (3, .ref x3)]) (hE : sX15_game_69 F h x0 x3 = some o) : W p l e (rmA 9 238 h0 o.2) s m args below meth c H locs (hS h - hS h0) (hL h - hL h0) (MQ below (QIA X h0 o.1 o.2) args s (hS o.2 - hS h0) (hL o.2 - hL h0) (aA (eB X))) (F0 m 69 ls []) := by
  refine lv_aload_n C.1 C.2.1 dX15_game_69 rfl (lv_at hl 0 rfl) ?_
  refine lv_aload_n C.1 C.2.1 dX15_game_70 rfl (lv_at hl 1 rfl) ?_
  refine lv_aload_n C.1 C.2.1 dX15_game_71 rfl (lv_at hl 0 rfl) ?_
  obtain ⟨r_1, er_1, hE⟩ := cl_e hE
  refine gf_X15_288 C hW k_x0 er_1 dX15_game_72 (fun k_r_1 => ?_)
  refine gf_X15_575 C hW k_r_1 dX15_game_75 ?_
  obtain ⟨o_2, eo_2, hE⟩ := cl_e hE
  have m1 := moX15_endedBy eo_2
  have m2 := moX15_game_81 hE
  refine x_kI (o := o_2) (z_runV (As := [.ref x3, .int (hI h r_1 0)]) (rest := []) C (ct_X15_endedBy l X F k_x0 k_x3 eo_2) cw_X15_683 hW hZ k_x0 (by decide) rfl rfl rfl hl.1 (Nat.le_of_ble_eq_true rfl) rfl dX15_game_78 ⟨Nat.le_of_ble_eq_true rfl, Nat.le_of_ble_eq_true rfl⟩ (rm_ok0 hkl m1 m2)) hZ (fun _ _ hW km hZ => ?_)
  replace hkl := hkl.tr km.l
  refine x_wc km ?_
  replace k_x0 := km.at k_x0 (by decide)
  replace k_x3 := km.at k_x3 (by decide)
  exact bX15_game_81 C hkl hW hZ _ (lv_sub hl [] rfl) hE
set_option maxRecDepth 20000 in
theorem bX15_game_43 {p : Program} {l : Launch} {e : Env} {s : State} {m : MethodId} {args : Array Value} {below : List Frame} {meth : Method} {c : Code} {X : Ec} {h0 : Hp} {o : Int32 × Hp} {F : Nat} (C : Cx X p s m args meth c RX15 cX15_game 6 (some .int) "game") {h : Hp} {x0 : Nat} {x1 : Int32} {x2 : Int32} {t0 : Nat} {H : Heap} {locs : List Loc} (k_x0 : hK h x0 = 15) (k_t0 : hK h t0 = 12) (hkl : Kl h0 h) (hW : Wx X h H) (hZ : va_S (aA (eB X)) s.heap H locs) (ls : Array Slot) (hl : lv_has ls 6 [(0, .ref x0), (1, .int x1), (2, .int x2)]) (hE : sX15_game_43 F h x0 x1 x2 t0 = some o) : W p l e (rmA 9 238 h0 o.2) s m args below meth c H locs (hS h - hS h0) (hL h - hL h0) (MQ below (QIA X h0 o.1 o.2) args s (hS o.2 - hS h0) (hL o.2 - hL h0) (aA (eB X))) (F0 m 43 ls [.ref t0]) := by
  refine lv_astore_n (lv' := [(3, .ref t0), (0, .ref x0), (1, .int x1), (2, .int x2)]) C.1 C.2.1 dX15_game_43 rfl hl (by decide) rfl (fun ls hl => ?_)
  refine lv_iload_n C.1 C.2.1 dX15_game_44 rfl (lv_at hl 3 rfl) ?_
  refine lv_if_ne (tgt := 55) C.1 C.2.1 dX15_game_45 (by decide) (fun c_1 => ?_) (fun c_1 => ?_)
  · have hE := br_n hE c_1
    refine lv_iload_n C.1 C.2.1 dX15_game_55 rfl (lv_at hl 3 rfl) ?_
    refine lv_iconst (v := (3 : Int32)) C.1 C.2.1 dX15_game_56 (by decide) ?_
    refine lv_icmp_ne (tgt := 82) C.1 C.2.1 dX15_game_57 (by decide) (fun c_2 => ?_) (fun c_2 => ?_)
    · have hE := br_n hE c_2
      refine lv_iconst (v := (0 : Int32)) C.1 C.2.1 dX15_game_82 (by decide) ?_
      refine lv_istore (lv' := [(4, .int (0 : Int32)), (3, .ref t0), (0, .ref x0), (1, .int x1), (2, .int x2)]) C.1 C.2.1 dX15_game_83 hl (by decide) rfl (fun ls hl => ?_)
      refine lv_iconst (v := (0 : Int32)) C.1 C.2.1 dX15_game_85 (by decide) ?_
      refine lv_istore (lv' := [(5, .int (0 : Int32)), (4, .int (0 : Int32)), (3, .ref t0), (0, .ref x0), (1, .int x1), (2, .int x2)]) C.1 C.2.1 dX15_game_86 hl (by decide) rfl (fun ls hl => ?_)
      exact bX15_game_88 C F k_x0 k_t0 hkl hW hZ _ (lv_sub hl [3, 4, 5, 2, 1, 0] rfl) hE
    · have hE := br_p hE c_2
      refine lv_aload_n C.1 C.2.1 dX15_game_60 rfl (lv_at hl 1 rfl) ?_
      refine lv_aload_n C.1 C.2.1 dX15_game_61 rfl (lv_at hl 0 rfl) ?_
      refine lv_aload_n C.1 C.2.1 dX15_game_62 rfl (lv_at hl 1 rfl) ?_
      obtain ⟨r_3, er_3, hE⟩ := cl_e hE
      refine gf_X15_288 C hW k_x0 er_3 dX15_game_63 (fun k_r_3 => ?_)
      obtain ⟨o_4, eo_4, hE⟩ := cl_e hE
      have m1 := moX15_legal eo_4
      have m2 := moX15_game_69 hE
      refine x_kV (o := o_4) (z_runV (As := [.ref t0, .ref r_3]) (rest := []) C (ct_X15_legal l X F k_x0 k_t0 k_r_3 eo_4) cw_X15_652 hW hZ k_x0 (by decide) rfl rfl rfl hl.1 (Nat.le_of_ble_eq_true rfl) rfl dX15_game_66 ⟨Nat.le_of_ble_eq_true rfl, Nat.le_of_ble_eq_true rfl⟩ (rm_ok0 hkl m1 m2)) hZ (fun _ _ hW km hZ => ?_)
      replace hkl := hkl.tr km.l
      refine x_wc km ?_
      replace k_t0 := km.at k_t0 (by decide)
      replace k_x0 := km.at k_x0 (by decide)
      exact bX15_game_69 C k_x0 k_t0 hkl hW hZ _ (lv_sub hl [1, 0] rfl) hE
  · have hE := br_p hE c_1
    refine lv_aload_n C.1 C.2.1 dX15_game_48 rfl (lv_at hl 1 rfl) ?_
    obtain ⟨r_5, er_5, hE⟩ := cl_e hE
    refine gf_X15_314 C hW k_x0 er_5 dX15_game_49 (fun k_r_5 => ?_)
    refine lv_iload_n C.1 C.2.1 dX15_game_52 rfl (lv_at hl 2 rfl) ?_
    obtain ⟨g_6, hE⟩ := gd_e hE
    refine y_iald C hW k_r_5 g_6 dX15_game_53 ?_
    exact x_iretA C rfl rfl hW hZ hkl hE dX15_game_54
set_option maxRecDepth 20000 in
theorem bX15_game_4 {p : Program} {l : Launch} {e : Env} {s : State} {m : MethodId} {args : Array Value} {below : List Frame} {meth : Method} {c : Code} {X : Ec} {h0 : Hp} {o : Int32 × Hp} {F : Nat} (C : Cx X p s m args meth c RX15 cX15_game 6 (some .int) "game") {h : Hp} {x0 : Nat} {x1 : Int32} {x2 : Int32} {t0 : Int32} {H : Heap} {locs : List Loc} (k_x0 : hK h x0 = 15) (hkl : Kl h0 h) (hW : Wx X h H) (hZ : va_S (aA (eB X)) s.heap H locs) (ls : Array Slot) (hl : lv_has ls 6 [(0, .ref x0), (1, .int x1), (2, .int x2)]) (hE : sX15_game_4 F h x0 x1 x2 t0 = some o) : W p l e (rmA 9 238 h0 o.2) s m args below meth c H locs (hS h - hS h0) (hL h - hL h0) (MQ below (QIA X h0 o.1 o.2) args s (hS o.2 - hS h0) (hL o.2 - hL h0) (aA (eB X))) (F0 m 4 ls [.int t0]) := by
  refine lv_if_eq (tgt := 16) C.1 C.2.1 dX15_game_4 (by decide) (fun c_1 => ?_) (fun c_1 => ?_)
  · have hE := br_p hE c_1
    exact bX15_game_16 C hkl hW hZ _ (lv_sub hl [] rfl) hE
  · have hE := br_n hE c_1
    refine lv_iload_n C.1 C.2.1 dX15_game_7 rfl (lv_at hl 2 rfl) ?_
    refine lv_if_lt (tgt := 16) C.1 C.2.1 dX15_game_8 (by decide) (fun c_2 => ?_) (fun c_2 => ?_)
    · have hE := br_p hE c_2
      exact bX15_game_16 C hkl hW hZ _ (lv_sub hl [] rfl) hE
    · have hE := br_n hE c_2
      refine lv_iload_n C.1 C.2.1 dX15_game_11 rfl (lv_at hl 2 rfl) ?_
      refine lv_iconst (v := (3 : Int32)) C.1 C.2.1 dX15_game_12 (by decide) ?_
      refine lv_icmp_le (tgt := 19) C.1 C.2.1 dX15_game_13 (by decide) (fun c_3 => ?_) (fun c_3 => ?_)
      · have hE := br_p hE c_3
        refine lv_aload_n C.1 C.2.1 dX15_game_19 rfl (lv_at hl 0 rfl) ?_
        obtain ⟨r_4, er_4, hE⟩ := cl_e hE
        refine gf_X15_314 C hW k_x0 er_4 dX15_game_20 (fun k_r_4 => ?_)
        refine lv_iload_n C.1 C.2.1 dX15_game_23 rfl (lv_at hl 1 rfl) ?_
        obtain ⟨g_5, hE⟩ := gd_e hE
        refine y_iald C hW k_r_4 g_5 dX15_game_24 ?_
        refine lv_iconst (v := (-1 : Int32)) C.1 C.2.1 dX15_game_25 (by decide) ?_
        refine lv_icmp_ne (tgt := 32) C.1 C.2.1 dX15_game_26 (by decide) (fun c_6 => ?_) (fun c_6 => ?_)
        · have hE := br_n hE c_6
          refine lv_aload_n C.1 C.2.1 dX15_game_32 rfl (lv_at hl 0 rfl) ?_
          refine lv_iload_n C.1 C.2.1 dX15_game_33 rfl (lv_at hl 1 rfl) ?_
          refine lv_aload_n C.1 C.2.1 dX15_game_34 rfl (lv_at hl 0 rfl) ?_
          obtain ⟨r_7, er_7, hE⟩ := cl_e hE
          refine gf_X15_314 C hW k_x0 er_7 dX15_game_35 (fun k_r_7 => ?_)
          refine lv_iload_n C.1 C.2.1 dX15_game_38 rfl (lv_at hl 1 rfl) ?_
          obtain ⟨g_8, hE⟩ := gd_e hE
          refine y_iald C hW k_r_7 g_8 dX15_game_39 ?_
          obtain ⟨o_9, eo_9, hE⟩ := cl_e hE
          have m1 := moX15_gameBoard eo_9
          have m2 := moX15_game_43 hE
          refine x_kRA (o := o_9) hkl (z_runV (As := [.int x1, .int (hI h r_7 x1.toNatClampNeg)]) (rest := []) C (ct_X15_gameBoard l X k_x0 eo_9) cw_X15_706 hW hZ k_x0 (by decide) rfl rfl rfl hl.1 (Nat.le_of_ble_eq_true rfl) rfl dX15_game_40 ⟨Nat.le_of_ble_eq_true rfl, Nat.le_of_ble_eq_true rfl⟩ (rm_ok hkl m1 m2)) hZ (fun _ _ hW km k_o_9_1 hZ => ?_)
          replace hkl := hkl.tr km
          replace k_x0 := km.at k_x0 (by decide)
          exact bX15_game_43 C k_x0 k_o_9_1 hkl hW hZ _ (lv_sub hl [0, 1, 2] rfl) hE
        · have hE := br_p hE c_6
          refine lv_bipush (v := (-102 : Int32)) C.1 C.2.1 dX15_game_29 (by decide) ?_
          exact x_iretA C rfl rfl hW hZ hkl hE dX15_game_31
      · have hE := br_n hE c_3
        exact bX15_game_16 C hkl hW hZ _ (lv_sub hl [] rfl) hE
set_option maxRecDepth 20000 in
theorem ct_X15_game (l : Launch) (X : Ec) (F : Nat) {h : Hp} {x0 : Nat} {x1 : Int32} {x2 : Int32} {o : Int32 × Hp} (k_x0 : hK h x0 = 15) (hE : sX15_game F h x0 x1 x2 = some o) : MetIA l yX15_game cX15_game 6 (some .int) 9 238 X [.ref x0, .int x1, .int x2] h o := by
  refine x_metA (oh := o.2) (by decide) (Nat.le_of_ble_eq_true rfl) ?_
  intro p e s m below meth c ls C hl hW hZ
  have hl : lv_has ls 6 [(0, .ref x0), (1, .int x1), (2, .int x2)] := hl
  have hkl : Kl h h := Kl.rf h
  refine lv_iload_n C.1 C.2.1 dX15_game_0 rfl (lv_at hl 1 rfl) ?_
  obtain ⟨o_1, eo_1, hE⟩ := cl_e hE
  have m1 := moX15_isGame eo_1
  have m2 := moX15_game_4 hE
  refine x_kI (o := o_1) (z_runS (As := [.int x1]) (rest := []) C (ct_X15_isGame l X eo_1) cw_X15_703 hW hZ rfl hl.1 (Nat.le_of_ble_eq_true rfl) rfl dX15_game_1 ⟨Nat.le_of_ble_eq_true rfl, Nat.le_of_ble_eq_true rfl⟩ (rm_ok0 hkl m1 m2)) hZ (fun _ _ hW km hZ => ?_)
  replace hkl := hkl.tr km.l
  refine x_wc km ?_
  replace k_x0 := km.at k_x0 (by decide)
  exact bX15_game_4 C k_x0 hkl hW hZ _ (lv_sub hl [0, 1, 2] rfl) hE
theorem dX15_played_0 : decode cX15_played 0 = .ok (.iload_n 1, 1) := by decide +kernel
theorem dX15_played_1 : decode cX15_played 1 = .ok (.invokestatic 703, 3) := by decide +kernel
theorem dX15_played_4 : decode cX15_played 4 = .ok (.ifCond .ne 6, 3) := by decide +kernel
theorem dX15_played_7 : decode cX15_played 7 = .ok (.bipush (-101), 2) := by decide +kernel
theorem dX15_played_9 : decode cX15_played 9 = .ok (.ireturn, 1) := by decide +kernel
theorem dX15_played_10 : decode cX15_played 10 = .ok (.aload_n 0, 1) := by decide +kernel
theorem dX15_played_11 : decode cX15_played 11 = .ok (.getfield 314, 3) := by decide +kernel
theorem dX15_played_14 : decode cX15_played 14 = .ok (.iload_n 1, 1) := by decide +kernel
theorem dX15_played_15 : decode cX15_played 15 = .ok (.iaload, 1) := by decide +kernel
theorem dX15_played_16 : decode cX15_played 16 = .ok (.iconst (-1), 1) := by decide +kernel
theorem dX15_played_17 : decode cX15_played 17 = .ok (.if_icmp .eq 17, 3) := by decide +kernel
theorem dX15_played_20 : decode cX15_played 20 = .ok (.iload_n 2, 1) := by decide +kernel
theorem dX15_played_21 : decode cX15_played 21 = .ok (.ifCond .lt 13, 3) := by decide +kernel
theorem dX15_played_24 : decode cX15_played 24 = .ok (.iload_n 2, 1) := by decide +kernel
theorem dX15_played_25 : decode cX15_played 25 = .ok (.aload_n 0, 1) := by decide +kernel
theorem dX15_played_26 : decode cX15_played 26 = .ok (.getfield 314, 3) := by decide +kernel
theorem dX15_played_29 : decode cX15_played 29 = .ok (.iload_n 1, 1) := by decide +kernel
theorem dX15_played_30 : decode cX15_played 30 = .ok (.iaload, 1) := by decide +kernel
theorem dX15_played_31 : decode cX15_played 31 = .ok (.if_icmp .lt 8, 3) := by decide +kernel
theorem dX15_played_34 : decode cX15_played 34 = .ok (.bipush (-102), 2) := by decide +kernel
theorem dX15_played_36 : decode cX15_played 36 = .ok (.goto 15, 3) := by decide +kernel
theorem dX15_played_39 : decode cX15_played 39 = .ok (.aload_n 0, 1) := by decide +kernel
theorem dX15_played_40 : decode cX15_played 40 = .ok (.getfield 311, 3) := by decide +kernel
theorem dX15_played_43 : decode cX15_played 43 = .ok (.iload_n 1, 1) := by decide +kernel
theorem dX15_played_44 : decode cX15_played 44 = .ok (.sipush 301, 3) := by decide +kernel
theorem dX15_played_47 : decode cX15_played 47 = .ok (.imul, 1) := by decide +kernel
theorem dX15_played_48 : decode cX15_played 48 = .ok (.iload_n 2, 1) := by decide +kernel
theorem dX15_played_49 : decode cX15_played 49 = .ok (.iadd, 1) := by decide +kernel
theorem dX15_played_50 : decode cX15_played 50 = .ok (.iaload, 1) := by decide +kernel
theorem dX15_played_51 : decode cX15_played 51 = .ok (.ireturn, 1) := by decide +kernel
set_option maxRecDepth 20000 in
theorem moX15_played_51 {o : Int32 × Hp} {h : Hp} {t0 : Int32} (hE : sX15_played_51 h  t0 = some o) : Le h o.2 := by
  exact le_some2 hE
set_option maxRecDepth 20000 in
theorem moX15_played_34 {o : Int32 × Hp} {h : Hp} (hE : sX15_played_34 h  = some o) : Le h o.2 := by
  exact moX15_played_51 hE
set_option maxRecDepth 20000 in
theorem moX15_played {o : Int32 × Hp} {h : Hp} {x0 : Nat} {x1 : Int32} {x2 : Int32} (hE : sX15_played h x0 x1 x2 = some o) : Le h o.2 := by
  obtain ⟨o_1, eo_1, hE⟩ := cl_e hE
  refine (moX15_isGame eo_1).tr ?_
  rcases br_e hE with ⟨_, hE⟩ | ⟨_, hE⟩
  · exact le_some2 hE
  · obtain ⟨r_3, er_3, hE⟩ := cl_e hE
    obtain ⟨g_4, hE⟩ := gd_e hE
    rcases br_e hE with ⟨_, hE⟩ | ⟨_, hE⟩
    · exact moX15_played_34 hE
    · rcases br_e hE with ⟨_, hE⟩ | ⟨_, hE⟩
      · exact moX15_played_34 hE
      · obtain ⟨r_7, er_7, hE⟩ := cl_e hE
        obtain ⟨g_8, hE⟩ := gd_e hE
        rcases br_e hE with ⟨_, hE⟩ | ⟨_, hE⟩
        · obtain ⟨r_10, er_10, hE⟩ := cl_e hE
          obtain ⟨g_11, hE⟩ := gd_e hE
          exact moX15_played_51 hE
        · exact moX15_played_34 hE
set_option maxRecDepth 20000 in
theorem bX15_played_51 {p : Program} {l : Launch} {e : Env} {s : State} {m : MethodId} {args : Array Value} {below : List Frame} {meth : Method} {c : Code} {X : Ec} {h0 : Hp} {o : Int32 × Hp} (C : Cx X p s m args meth c RX15 cX15_played 3 (some .int) "played") {h : Hp} {t0 : Int32} {H : Heap} {locs : List Loc} (hkm : Km h0 h) (hW : Wx X h H) (hZ : va_S (aA (eB X)) s.heap H locs) (ls : Array Slot) (hl : lv_has ls 3 []) (hE : sX15_played_51 h  t0 = some o) : W p l e (rm 1 20) s m args below meth c H locs 0 0 (MQ below (QI X h0 o.1 o.2) args s 0 0 (aA (eB X))) (F0 m 51 ls [.int t0]) := by
  exact x_iret C rfl rfl hW hZ hkm hE dX15_played_51
set_option maxRecDepth 20000 in
theorem bX15_played_34 {p : Program} {l : Launch} {e : Env} {s : State} {m : MethodId} {args : Array Value} {below : List Frame} {meth : Method} {c : Code} {X : Ec} {h0 : Hp} {o : Int32 × Hp} (C : Cx X p s m args meth c RX15 cX15_played 3 (some .int) "played") {h : Hp} {H : Heap} {locs : List Loc} (hkm : Km h0 h) (hW : Wx X h H) (hZ : va_S (aA (eB X)) s.heap H locs) (ls : Array Slot) (hl : lv_has ls 3 []) (hE : sX15_played_34 h  = some o) : W p l e (rm 1 20) s m args below meth c H locs 0 0 (MQ below (QI X h0 o.1 o.2) args s 0 0 (aA (eB X))) (F0 m 34 ls []) := by
  refine lv_bipush (v := (-102 : Int32)) C.1 C.2.1 dX15_played_34 (by decide) ?_
  refine lv_goto (tgt := 51) C.1 C.2.1 dX15_played_36 (by decide) ?_
  exact bX15_played_51 C hkm hW hZ _ (lv_sub hl [] rfl) hE
set_option maxRecDepth 20000 in
theorem ct_X15_played (l : Launch) (X : Ec) {h : Hp} {x0 : Nat} {x1 : Int32} {x2 : Int32} {o : Int32 × Hp} (k_x0 : hK h x0 = 15) (hE : sX15_played h x0 x1 x2 = some o) : MetI l yX15_played cX15_played 3 (some .int) 1 20 X [.ref x0, .int x1, .int x2] h o := by
  refine x_met (by decide) (Nat.le_of_ble_eq_true rfl) ?_
  intro p e s m below meth c ls C hl hW hZ
  have hl : lv_has ls 3 [(0, .ref x0), (1, .int x1), (2, .int x2)] := hl
  have hkm : Km h h := Km.rf h
  refine lv_iload_n C.1 C.2.1 dX15_played_0 rfl (lv_at hl 1 rfl) ?_
  obtain ⟨o_1, eo_1, hE⟩ := cl_e hE
  refine x_kI (o := o_1) (z_runS (As := [.int x1]) (rest := []) C (ct_X15_isGame l X eo_1) cw_X15_703 hW hZ rfl hl.1 (Nat.le_of_ble_eq_true rfl) rfl dX15_played_1 ⟨Nat.le_of_ble_eq_true rfl, Nat.le_of_ble_eq_true rfl⟩ ⟨Nat.le_refl _, Nat.le_refl _⟩) hZ (fun _ _ hW km hZ => ?_)
  replace hkm := hkm.tr km
  replace k_x0 := km.at k_x0 (by decide)
  refine lv_if_ne (tgt := 10) C.1 C.2.1 dX15_played_4 (by decide) (fun c_2 => ?_) (fun c_2 => ?_)
  · have hE := br_n hE c_2
    refine lv_aload_n C.1 C.2.1 dX15_played_10 rfl (lv_at hl 0 rfl) ?_
    obtain ⟨r_3, er_3, hE⟩ := cl_e hE
    refine gf_X15_314 C hW k_x0 er_3 dX15_played_11 (fun k_r_3 => ?_)
    refine lv_iload_n C.1 C.2.1 dX15_played_14 rfl (lv_at hl 1 rfl) ?_
    obtain ⟨g_4, hE⟩ := gd_e hE
    refine y_iald C hW k_r_3 g_4 dX15_played_15 ?_
    refine lv_iconst (v := (-1 : Int32)) C.1 C.2.1 dX15_played_16 (by decide) ?_
    refine lv_icmp_eq (tgt := 34) C.1 C.2.1 dX15_played_17 (by decide) (fun c_5 => ?_) (fun c_5 => ?_)
    · have hE := br_p hE c_5
      exact bX15_played_34 C hkm hW hZ _ (lv_sub hl [] rfl) hE
    · have hE := br_n hE c_5
      refine lv_iload_n C.1 C.2.1 dX15_played_20 rfl (lv_at hl 2 rfl) ?_
      refine lv_if_lt (tgt := 34) C.1 C.2.1 dX15_played_21 (by decide) (fun c_6 => ?_) (fun c_6 => ?_)
      · have hE := br_p hE c_6
        exact bX15_played_34 C hkm hW hZ _ (lv_sub hl [] rfl) hE
      · have hE := br_n hE c_6
        refine lv_iload_n C.1 C.2.1 dX15_played_24 rfl (lv_at hl 2 rfl) ?_
        refine lv_aload_n C.1 C.2.1 dX15_played_25 rfl (lv_at hl 0 rfl) ?_
        obtain ⟨r_7, er_7, hE⟩ := cl_e hE
        refine gf_X15_314 C hW k_x0 er_7 dX15_played_26 (fun k_r_7 => ?_)
        refine lv_iload_n C.1 C.2.1 dX15_played_29 rfl (lv_at hl 1 rfl) ?_
        obtain ⟨g_8, hE⟩ := gd_e hE
        refine y_iald C hW k_r_7 g_8 dX15_played_30 ?_
        refine lv_icmp_lt (tgt := 39) C.1 C.2.1 dX15_played_31 (by decide) (fun c_9 => ?_) (fun c_9 => ?_)
        · have hE := br_p hE c_9
          refine lv_aload_n C.1 C.2.1 dX15_played_39 rfl (lv_at hl 0 rfl) ?_
          obtain ⟨r_10, er_10, hE⟩ := cl_e hE
          refine gf_X15_311 C hW k_x0 er_10 dX15_played_40 (fun k_r_10 => ?_)
          refine lv_iload_n C.1 C.2.1 dX15_played_43 rfl (lv_at hl 1 rfl) ?_
          refine lv_sipush (v := (301 : Int32)) C.1 C.2.1 dX15_played_44 (by decide) ?_
          refine lv_imul C.1 C.2.1 dX15_played_47 ?_
          refine lv_iload_n C.1 C.2.1 dX15_played_48 rfl (lv_at hl 2 rfl) ?_
          refine lv_iadd C.1 C.2.1 dX15_played_49 ?_
          obtain ⟨g_11, hE⟩ := gd_e hE
          refine y_iald C hW k_r_10 g_11 dX15_played_50 ?_
          exact bX15_played_51 C hkm hW hZ _ (lv_sub hl [] rfl) hE
        · have hE := br_n hE c_9
          exact bX15_played_34 C hkm hW hZ _ (lv_sub hl [] rfl) hE
  · have hE := br_p hE c_2
    refine lv_bipush (v := (-101 : Int32)) C.1 C.2.1 dX15_played_7 (by decide) ?_
    exact x_iret C rfl rfl hW hZ hkm hE dX15_played_9
theorem dX15_now_0 : decode cX15_now 0 = .ok (.iload_n 1, 1) := by decide +kernel
theorem dX15_now_1 : decode cX15_now 1 = .ok (.invokestatic 703, 3) := by decide +kernel
theorem dX15_now_4 : decode cX15_now 4 = .ok (.ifCond .ne 6, 3) := by decide +kernel
theorem dX15_now_7 : decode cX15_now 7 = .ok (.bipush (-101), 2) := by decide +kernel
theorem dX15_now_9 : decode cX15_now 9 = .ok (.ireturn, 1) := by decide +kernel
theorem dX15_now_10 : decode cX15_now 10 = .ok (.aload_n 0, 1) := by decide +kernel
theorem dX15_now_11 : decode cX15_now 11 = .ok (.getfield 314, 3) := by decide +kernel
theorem dX15_now_14 : decode cX15_now 14 = .ok (.iload_n 1, 1) := by decide +kernel
theorem dX15_now_15 : decode cX15_now 15 = .ok (.iaload, 1) := by decide +kernel
theorem dX15_now_16 : decode cX15_now 16 = .ok (.iconst (-1), 1) := by decide +kernel
theorem dX15_now_17 : decode cX15_now 17 = .ok (.if_icmp .ne 8, 3) := by decide +kernel
theorem dX15_now_20 : decode cX15_now 20 = .ok (.bipush (-102), 2) := by decide +kernel
theorem dX15_now_22 : decode cX15_now 22 = .ok (.goto 18, 3) := by decide +kernel
theorem dX15_now_25 : decode cX15_now 25 = .ok (.aload_n 0, 1) := by decide +kernel
theorem dX15_now_26 : decode cX15_now 26 = .ok (.aload_n 0, 1) := by decide +kernel
theorem dX15_now_27 : decode cX15_now 27 = .ok (.iload_n 1, 1) := by decide +kernel
theorem dX15_now_28 : decode cX15_now 28 = .ok (.aload_n 0, 1) := by decide +kernel
theorem dX15_now_29 : decode cX15_now 29 = .ok (.getfield 314, 3) := by decide +kernel
theorem dX15_now_32 : decode cX15_now 32 = .ok (.iload_n 1, 1) := by decide +kernel
theorem dX15_now_33 : decode cX15_now 33 = .ok (.iaload, 1) := by decide +kernel
theorem dX15_now_34 : decode cX15_now 34 = .ok (.invokevirtual 706, 3) := by decide +kernel
theorem dX15_now_37 : decode cX15_now 37 = .ok (.invokevirtual 483, 3) := by decide +kernel
theorem dX15_now_40 : decode cX15_now 40 = .ok (.ireturn, 1) := by decide +kernel
set_option maxRecDepth 20000 in
theorem moX15_now_40 {o : Int32 × Hp} {F : Nat} {h : Hp} {t0 : Int32} (hE : sX15_now_40 F h  t0 = some o) : Le h o.2 := by
  exact le_some2 hE
set_option maxRecDepth 20000 in
theorem moX15_now_37 {o : Int32 × Hp} {F : Nat} {h : Hp} {t0 : Nat} {t1 : Nat} (hE : sX15_now_37 F h  t0 t1 = some o) : Le h o.2 := by
  obtain ⟨o_1, eo_1, hE⟩ := cl_e hE
  refine (moX15_keep eo_1).tr ?_
  exact moX15_now_40 hE
set_option maxRecDepth 20000 in
theorem moX15_now_4 {o : Int32 × Hp} {F : Nat} {h : Hp} {x0 : Nat} {x1 : Int32} {t0 : Int32} (hE : sX15_now_4 F h x0 x1 t0 = some o) : Le h o.2 := by
  rcases br_e hE with ⟨_, hE⟩ | ⟨_, hE⟩
  · exact le_some2 hE
  · obtain ⟨r_2, er_2, hE⟩ := cl_e hE
    obtain ⟨g_3, hE⟩ := gd_e hE
    rcases br_e hE with ⟨_, hE⟩ | ⟨_, hE⟩
    · exact moX15_now_40 hE
    · obtain ⟨r_5, er_5, hE⟩ := cl_e hE
      obtain ⟨g_6, hE⟩ := gd_e hE
      obtain ⟨o_7, eo_7, hE⟩ := cl_e hE
      refine (moX15_gameBoard eo_7).tr ?_
      exact moX15_now_37 hE
set_option maxRecDepth 20000 in
theorem moX15_now {o : Int32 × Hp} {F : Nat} {h : Hp} {x0 : Nat} {x1 : Int32} (hE : sX15_now F h x0 x1 = some o) : Le h o.2 := by
  obtain ⟨o_1, eo_1, hE⟩ := cl_e hE
  refine (moX15_isGame eo_1).tr ?_
  exact moX15_now_4 hE
set_option maxRecDepth 20000 in
theorem bX15_now_40 {p : Program} {l : Launch} {e : Env} {s : State} {m : MethodId} {args : Array Value} {below : List Frame} {meth : Method} {c : Code} {X : Ec} {h0 : Hp} {o : Int32 × Hp} {F : Nat} (C : Cx X p s m args meth c RX15 cX15_now 2 (some .int) "now") {h : Hp} {t0 : Int32} {H : Heap} {locs : List Loc} (hkl : Kl h0 h) (hW : Wx X h H) (hZ : va_S (aA (eB X)) s.heap H locs) (ls : Array Slot) (hl : lv_has ls 2 []) (hE : sX15_now_40 F h  t0 = some o) : W p l e (rmA 3 107 h0 o.2) s m args below meth c H locs (hS h - hS h0) (hL h - hL h0) (MQ below (QIA X h0 o.1 o.2) args s (hS o.2 - hS h0) (hL o.2 - hL h0) (aA (eB X))) (F0 m 40 ls [.int t0]) := by
  exact x_iretA C rfl rfl hW hZ hkl hE dX15_now_40
set_option maxRecDepth 20000 in
theorem bX15_now_37 {p : Program} {l : Launch} {e : Env} {s : State} {m : MethodId} {args : Array Value} {below : List Frame} {meth : Method} {c : Code} {X : Ec} {h0 : Hp} {o : Int32 × Hp} {F : Nat} (C : Cx X p s m args meth c RX15 cX15_now 2 (some .int) "now") {h : Hp} {t0 : Nat} {t1 : Nat} {H : Heap} {locs : List Loc} (k_t0 : hK h t0 = 12) (k_t1 : hK h t1 = 15) (hkl : Kl h0 h) (hW : Wx X h H) (hZ : va_S (aA (eB X)) s.heap H locs) (ls : Array Slot) (hl : lv_has ls 2 []) (hE : sX15_now_37 F h  t0 t1 = some o) : W p l e (rmA 3 107 h0 o.2) s m args below meth c H locs (hS h - hS h0) (hL h - hL h0) (MQ below (QIA X h0 o.1 o.2) args s (hS o.2 - hS h0) (hL o.2 - hL h0) (aA (eB X))) (F0 m 37 ls [.ref t0, .ref t1]) := by
  obtain ⟨o_1, eo_1, hE⟩ := cl_e hE
  have m1 := moX15_keep eo_1
  have m2 := moX15_now_40 hE
  refine x_kIA (o := o_1) hkl (z_runV (As := [.ref t0]) (rest := []) C (ct_X15_keep l X F k_t1 k_t0 eo_1) cw_X15_483 hW hZ k_t1 (by decide) rfl rfl rfl hl.1 (Nat.le_of_ble_eq_true rfl) rfl dX15_now_37 ⟨Nat.le_of_ble_eq_true rfl, Nat.le_of_ble_eq_true rfl⟩ (rm_ok hkl m1 m2)) hZ (fun _ _ hW km hZ => ?_)
  replace hkl := hkl.tr km
  exact bX15_now_40 C hkl hW hZ _ (lv_sub hl [] rfl) hE
set_option maxRecDepth 20000 in
theorem bX15_now_4 {p : Program} {l : Launch} {e : Env} {s : State} {m : MethodId} {args : Array Value} {below : List Frame} {meth : Method} {c : Code} {X : Ec} {h0 : Hp} {o : Int32 × Hp} {F : Nat} (C : Cx X p s m args meth c RX15 cX15_now 2 (some .int) "now") {h : Hp} {x0 : Nat} {x1 : Int32} {t0 : Int32} {H : Heap} {locs : List Loc} (k_x0 : hK h x0 = 15) (hkl : Kl h0 h) (hW : Wx X h H) (hZ : va_S (aA (eB X)) s.heap H locs) (ls : Array Slot) (hl : lv_has ls 2 [(0, .ref x0), (1, .int x1)]) (hE : sX15_now_4 F h x0 x1 t0 = some o) : W p l e (rmA 3 107 h0 o.2) s m args below meth c H locs (hS h - hS h0) (hL h - hL h0) (MQ below (QIA X h0 o.1 o.2) args s (hS o.2 - hS h0) (hL o.2 - hL h0) (aA (eB X))) (F0 m 4 ls [.int t0]) := by
  refine lv_if_ne (tgt := 10) C.1 C.2.1 dX15_now_4 (by decide) (fun c_1 => ?_) (fun c_1 => ?_)
  · have hE := br_n hE c_1
    refine lv_aload_n C.1 C.2.1 dX15_now_10 rfl (lv_at hl 0 rfl) ?_
    obtain ⟨r_2, er_2, hE⟩ := cl_e hE
    refine gf_X15_314 C hW k_x0 er_2 dX15_now_11 (fun k_r_2 => ?_)
    refine lv_iload_n C.1 C.2.1 dX15_now_14 rfl (lv_at hl 1 rfl) ?_
    obtain ⟨g_3, hE⟩ := gd_e hE
    refine y_iald C hW k_r_2 g_3 dX15_now_15 ?_
    refine lv_iconst (v := (-1 : Int32)) C.1 C.2.1 dX15_now_16 (by decide) ?_
    refine lv_icmp_ne (tgt := 25) C.1 C.2.1 dX15_now_17 (by decide) (fun c_4 => ?_) (fun c_4 => ?_)
    · have hE := br_n hE c_4
      refine lv_aload_n C.1 C.2.1 dX15_now_25 rfl (lv_at hl 0 rfl) ?_
      refine lv_aload_n C.1 C.2.1 dX15_now_26 rfl (lv_at hl 0 rfl) ?_
      refine lv_iload_n C.1 C.2.1 dX15_now_27 rfl (lv_at hl 1 rfl) ?_
      refine lv_aload_n C.1 C.2.1 dX15_now_28 rfl (lv_at hl 0 rfl) ?_
      obtain ⟨r_5, er_5, hE⟩ := cl_e hE
      refine gf_X15_314 C hW k_x0 er_5 dX15_now_29 (fun k_r_5 => ?_)
      refine lv_iload_n C.1 C.2.1 dX15_now_32 rfl (lv_at hl 1 rfl) ?_
      obtain ⟨g_6, hE⟩ := gd_e hE
      refine y_iald C hW k_r_5 g_6 dX15_now_33 ?_
      obtain ⟨o_7, eo_7, hE⟩ := cl_e hE
      have m1 := moX15_gameBoard eo_7
      have m2 := moX15_now_37 hE
      refine x_kRA (o := o_7) hkl (z_runV (As := [.int x1, .int (hI h r_5 x1.toNatClampNeg)]) (rest := [.ref x0]) C (ct_X15_gameBoard l X k_x0 eo_7) cw_X15_706 hW hZ k_x0 (by decide) rfl rfl rfl hl.1 (Nat.le_of_ble_eq_true rfl) rfl dX15_now_34 ⟨Nat.le_of_ble_eq_true rfl, Nat.le_of_ble_eq_true rfl⟩ (rm_ok hkl m1 m2)) hZ (fun _ _ hW km k_o_7_1 hZ => ?_)
      replace hkl := hkl.tr km
      replace k_x0 := km.at k_x0 (by decide)
      exact bX15_now_37 C k_o_7_1 k_x0 hkl hW hZ _ (lv_sub hl [] rfl) hE
    · have hE := br_p hE c_4
      refine lv_bipush (v := (-102 : Int32)) C.1 C.2.1 dX15_now_20 (by decide) ?_
      refine lv_goto (tgt := 40) C.1 C.2.1 dX15_now_22 (by decide) ?_
      exact bX15_now_40 C hkl hW hZ _ (lv_sub hl [] rfl) hE
  · have hE := br_p hE c_1
    refine lv_bipush (v := (-101 : Int32)) C.1 C.2.1 dX15_now_7 (by decide) ?_
    exact x_iretA C rfl rfl hW hZ hkl hE dX15_now_9
set_option maxRecDepth 20000 in
theorem ct_X15_now (l : Launch) (X : Ec) (F : Nat) {h : Hp} {x0 : Nat} {x1 : Int32} {o : Int32 × Hp} (k_x0 : hK h x0 = 15) (hE : sX15_now F h x0 x1 = some o) : MetIA l yX15_now cX15_now 2 (some .int) 3 107 X [.ref x0, .int x1] h o := by
  refine x_metA (oh := o.2) (by decide) (Nat.le_of_ble_eq_true rfl) ?_
  intro p e s m below meth c ls C hl hW hZ
  have hl : lv_has ls 2 [(0, .ref x0), (1, .int x1)] := hl
  have hkl : Kl h h := Kl.rf h
  refine lv_iload_n C.1 C.2.1 dX15_now_0 rfl (lv_at hl 1 rfl) ?_
  obtain ⟨o_1, eo_1, hE⟩ := cl_e hE
  have m1 := moX15_isGame eo_1
  have m2 := moX15_now_4 hE
  refine x_kI (o := o_1) (z_runS (As := [.int x1]) (rest := []) C (ct_X15_isGame l X eo_1) cw_X15_703 hW hZ rfl hl.1 (Nat.le_of_ble_eq_true rfl) rfl dX15_now_1 ⟨Nat.le_of_ble_eq_true rfl, Nat.le_of_ble_eq_true rfl⟩ (rm_ok0 hkl m1 m2)) hZ (fun _ _ hW km hZ => ?_)
  replace hkl := hkl.tr km.l
  refine x_wc km ?_
  replace k_x0 := km.at k_x0 (by decide)
  exact bX15_now_4 C k_x0 hkl hW hZ _ (lv_sub hl [0, 1] rfl) hE
theorem dX15_book_0 : decode cX15_book 0 = .ok (.aload_n 0, 1) := by decide +kernel
theorem dX15_book_1 : decode cX15_book 1 = .ok (.iload_n 1, 1) := by decide +kernel
theorem dX15_book_2 : decode cX15_book 2 = .ok (.invokevirtual 668, 3) := by decide +kernel
theorem dX15_book_5 : decode cX15_book 5 = .ok (.bipush (-102), 2) := by decide +kernel
theorem dX15_book_7 : decode cX15_book 7 = .ok (.if_icmp .eq 23, 3) := by decide +kernel
theorem dX15_book_10 : decode cX15_book 10 = .ok (.iload_n 2, 1) := by decide +kernel
theorem dX15_book_11 : decode cX15_book 11 = .ok (.iconst (-1), 1) := by decide +kernel
theorem dX15_book_12 : decode cX15_book 12 = .ok (.if_icmp .eq 21, 3) := by decide +kernel
theorem dX15_book_15 : decode cX15_book 15 = .ok (.iload_n 2, 1) := by decide +kernel
theorem dX15_book_16 : decode cX15_book 16 = .ok (.ifCond .lt 14, 3) := by decide +kernel
theorem dX15_book_19 : decode cX15_book 19 = .ok (.iload_n 2, 1) := by decide +kernel
theorem dX15_book_20 : decode cX15_book 20 = .ok (.aload_n 0, 1) := by decide +kernel
theorem dX15_book_21 : decode cX15_book 21 = .ok (.getfield 288, 3) := by decide +kernel
theorem dX15_book_24 : decode cX15_book 24 = .ok (.getfield 575, 3) := by decide +kernel
theorem dX15_book_27 : decode cX15_book 27 = .ok (.if_icmp .lt 6, 3) := by decide +kernel
theorem dX15_book_30 : decode cX15_book 30 = .ok (.bipush (-102), 2) := by decide +kernel
theorem dX15_book_32 : decode cX15_book 32 = .ok (.ireturn, 1) := by decide +kernel
theorem dX15_book_33 : decode cX15_book 33 = .ok (.iconst 0, 1) := by decide +kernel
theorem dX15_book_34 : decode cX15_book 34 = .ok (.istore_n 3, 1) := by decide +kernel
theorem dX15_book_35 : decode cX15_book 35 = .ok (.iconst 0, 1) := by decide +kernel
theorem dX15_book_36 : decode cX15_book 36 = .ok (.istore 4, 2) := by decide +kernel
theorem dX15_book_38 : decode cX15_book 38 = .ok (.iload 4, 2) := by decide +kernel
theorem dX15_book_40 : decode cX15_book 40 = .ok (.bipush 8, 2) := by decide +kernel
theorem dX15_book_42 : decode cX15_book 42 = .ok (.if_icmp .ge 105, 3) := by decide +kernel
theorem dX15_book_45 : decode cX15_book 45 = .ok (.iconst 0, 1) := by decide +kernel
theorem dX15_book_46 : decode cX15_book 46 = .ok (.istore 5, 2) := by decide +kernel
theorem dX15_book_48 : decode cX15_book 48 = .ok (.iload 5, 2) := by decide +kernel
theorem dX15_book_50 : decode cX15_book 50 = .ok (.aload_n 0, 1) := by decide +kernel
theorem dX15_book_51 : decode cX15_book 51 = .ok (.getfield 314, 3) := by decide +kernel
theorem dX15_book_54 : decode cX15_book 54 = .ok (.iload 4, 2) := by decide +kernel
theorem dX15_book_56 : decode cX15_book 56 = .ok (.iaload, 1) := by decide +kernel
theorem dX15_book_57 : decode cX15_book 57 = .ok (.if_icmp .gt 84, 3) := by decide +kernel
theorem dX15_book_60 : decode cX15_book 60 = .ok (.aload_n 0, 1) := by decide +kernel
theorem dX15_book_61 : decode cX15_book 61 = .ok (.getfield 314, 3) := by decide +kernel
theorem dX15_book_64 : decode cX15_book 64 = .ok (.iload 4, 2) := by decide +kernel
theorem dX15_book_66 : decode cX15_book 66 = .ok (.iaload, 1) := by decide +kernel
theorem dX15_book_67 : decode cX15_book 67 = .ok (.iconst (-1), 1) := by decide +kernel
theorem dX15_book_68 : decode cX15_book 68 = .ok (.if_icmp .eq 73, 3) := by decide +kernel
theorem dX15_book_71 : decode cX15_book 71 = .ok (.iload_n 2, 1) := by decide +kernel
theorem dX15_book_72 : decode cX15_book 72 = .ok (.iconst (-1), 1) := by decide +kernel
theorem dX15_book_73 : decode cX15_book 73 = .ok (.if_icmp .eq 33, 3) := by decide +kernel
theorem dX15_book_76 : decode cX15_book 76 = .ok (.iload 5, 2) := by decide +kernel
theorem dX15_book_78 : decode cX15_book 78 = .ok (.aload_n 0, 1) := by decide +kernel
theorem dX15_book_79 : decode cX15_book 79 = .ok (.getfield 314, 3) := by decide +kernel
theorem dX15_book_82 : decode cX15_book 82 = .ok (.iload 4, 2) := by decide +kernel
theorem dX15_book_84 : decode cX15_book 84 = .ok (.iaload, 1) := by decide +kernel
theorem dX15_book_85 : decode cX15_book 85 = .ok (.if_icmp .ge 50, 3) := by decide +kernel
theorem dX15_book_88 : decode cX15_book 88 = .ok (.aload_n 0, 1) := by decide +kernel
theorem dX15_book_89 : decode cX15_book 89 = .ok (.getfield 311, 3) := by decide +kernel
theorem dX15_book_92 : decode cX15_book 92 = .ok (.iload 4, 2) := by decide +kernel
theorem dX15_book_94 : decode cX15_book 94 = .ok (.sipush 301, 3) := by decide +kernel
theorem dX15_book_97 : decode cX15_book 97 = .ok (.imul, 1) := by decide +kernel
theorem dX15_book_98 : decode cX15_book 98 = .ok (.iload 5, 2) := by decide +kernel
theorem dX15_book_100 : decode cX15_book 100 = .ok (.iadd, 1) := by decide +kernel
theorem dX15_book_101 : decode cX15_book 101 = .ok (.iaload, 1) := by decide +kernel
theorem dX15_book_102 : decode cX15_book 102 = .ok (.iload_n 2, 1) := by decide +kernel
theorem dX15_book_103 : decode cX15_book 103 = .ok (.if_icmp .ne 32, 3) := by decide +kernel
theorem dX15_book_106 : decode cX15_book 106 = .ok (.iload_n 3, 1) := by decide +kernel
theorem dX15_book_107 : decode cX15_book 107 = .ok (.aload_n 0, 1) := by decide +kernel
theorem dX15_book_108 : decode cX15_book 108 = .ok (.aload_n 0, 1) := by decide +kernel
theorem dX15_book_109 : decode cX15_book 109 = .ok (.iload 4, 2) := by decide +kernel
theorem dX15_book_111 : decode cX15_book 111 = .ok (.iload 5, 2) := by decide +kernel
theorem dX15_book_113 : decode cX15_book 113 = .ok (.invokevirtual 706, 3) := by decide +kernel
theorem dX15_book_116 : decode cX15_book 116 = .ok (.aload_n 0, 1) := by decide +kernel
theorem dX15_book_117 : decode cX15_book 117 = .ok (.getfield 257, 3) := by decide +kernel
theorem dX15_book_120 : decode cX15_book 120 = .ok (.iload_n 1, 1) := by decide +kernel
theorem dX15_book_121 : decode cX15_book 121 = .ok (.aaload, 1) := by decide +kernel
theorem dX15_book_122 : decode cX15_book 122 = .ok (.invokevirtual 658, 3) := by decide +kernel
theorem dX15_book_125 : decode cX15_book 125 = .ok (.ifCond .eq 7, 3) := by decide +kernel
theorem dX15_book_128 : decode cX15_book 128 = .ok (.iconst 1, 1) := by decide +kernel
theorem dX15_book_129 : decode cX15_book 129 = .ok (.goto 4, 3) := by decide +kernel
theorem dX15_book_132 : decode cX15_book 132 = .ok (.iconst 0, 1) := by decide +kernel
theorem dX15_book_133 : decode cX15_book 133 = .ok (.iadd, 1) := by decide +kernel
theorem dX15_book_134 : decode cX15_book 134 = .ok (.istore_n 3, 1) := by decide +kernel
theorem dX15_book_135 : decode cX15_book 135 = .ok (.iinc 5 1, 3) := by decide +kernel
theorem dX15_book_138 : decode cX15_book 138 = .ok (.goto (-90), 3) := by decide +kernel
theorem dX15_book_141 : decode cX15_book 141 = .ok (.iinc 4 1, 3) := by decide +kernel
theorem dX15_book_144 : decode cX15_book 144 = .ok (.goto (-106), 3) := by decide +kernel
theorem dX15_book_147 : decode cX15_book 147 = .ok (.iload_n 3, 1) := by decide +kernel
theorem dX15_book_148 : decode cX15_book 148 = .ok (.ireturn, 1) := by decide +kernel
set_option maxRecDepth 20000 in
theorem moX15_book_30 {o : Int32 × Hp} {F : Nat} {h : Hp} (hE : sX15_book_30 F h  = some o) : Le h o.2 := by
  exact le_some2 hE
set_option maxRecDepth 20000 in
theorem moX15_book_141 {o : Int32 × Hp} {k_38 : Hp → Nat → Int32 → Int32 → Int32 → Int32 → Option (Int32 × Hp)} {F : Nat} (mk_38 : ∀ (h : Hp) (x0 : Nat) (x1 : Int32) (x2 : Int32) (x3 : Int32) (x4 : Int32), k_38 h x0 x1 x2 x3 x4 = some o → Le h o.2) {h : Hp} {x0 : Nat} {x1 : Int32} {x2 : Int32} {x3 : Int32} {x4 : Int32} (hE : sX15_book_141 F k_38 h x0 x1 x2 x3 x4 = some o) : Le h o.2 := by
  obtain ⟨v_1, ev_1, hE⟩ := nm_e2 hE
  exact mk_38 _ _ _ _ _ _ hE
set_option maxRecDepth 20000 in
theorem moX15_book_135 {o : Int32 × Hp} {k_38 : Hp → Nat → Int32 → Int32 → Int32 → Int32 → Option (Int32 × Hp)} {k_48 : Hp → Nat → Int32 → Int32 → Int32 → Int32 → Int32 → Option (Int32 × Hp)} {F : Nat} (mk_38 : ∀ (h : Hp) (x0 : Nat) (x1 : Int32) (x2 : Int32) (x3 : Int32) (x4 : Int32), k_38 h x0 x1 x2 x3 x4 = some o → Le h o.2) (mk_48 : ∀ (h : Hp) (x0 : Nat) (x1 : Int32) (x2 : Int32) (x3 : Int32) (x4 : Int32) (x5 : Int32), k_48 h x0 x1 x2 x3 x4 x5 = some o → Le h o.2) {h : Hp} {x0 : Nat} {x1 : Int32} {x2 : Int32} {x3 : Int32} {x4 : Int32} {x5 : Int32} (hE : sX15_book_135 F k_38 k_48 h x0 x1 x2 x3 x4 x5 = some o) : Le h o.2 := by
  obtain ⟨v_1, ev_1, hE⟩ := nm_e2 hE
  exact mk_48 _ _ _ _ _ _ _ hE
set_option maxRecDepth 20000 in
theorem moX15_book_133 {o : Int32 × Hp} {k_38 : Hp → Nat → Int32 → Int32 → Int32 → Int32 → Option (Int32 × Hp)} {k_48 : Hp → Nat → Int32 → Int32 → Int32 → Int32 → Int32 → Option (Int32 × Hp)} {F : Nat} (mk_38 : ∀ (h : Hp) (x0 : Nat) (x1 : Int32) (x2 : Int32) (x3 : Int32) (x4 : Int32), k_38 h x0 x1 x2 x3 x4 = some o → Le h o.2) (mk_48 : ∀ (h : Hp) (x0 : Nat) (x1 : Int32) (x2 : Int32) (x3 : Int32) (x4 : Int32) (x5 : Int32), k_48 h x0 x1 x2 x3 x4 x5 = some o → Le h o.2) {h : Hp} {x0 : Nat} {x1 : Int32} {x2 : Int32} {x4 : Int32} {x5 : Int32} {t0 : Int32} {t1 : Int32} (hE : sX15_book_133 F k_38 k_48 h x0 x1 x2 x4 x5 t0 t1 = some o) : Le h o.2 := by
  obtain ⟨v_1, ev_1, hE⟩ := nm_e2 hE
  exact moX15_book_135 mk_38 mk_48 hE
set_option maxRecDepth 20000 in
theorem moX15_book_125 {o : Int32 × Hp} {k_38 : Hp → Nat → Int32 → Int32 → Int32 → Int32 → Option (Int32 × Hp)} {k_48 : Hp → Nat → Int32 → Int32 → Int32 → Int32 → Int32 → Option (Int32 × Hp)} {F : Nat} (mk_38 : ∀ (h : Hp) (x0 : Nat) (x1 : Int32) (x2 : Int32) (x3 : Int32) (x4 : Int32), k_38 h x0 x1 x2 x3 x4 = some o → Le h o.2) (mk_48 : ∀ (h : Hp) (x0 : Nat) (x1 : Int32) (x2 : Int32) (x3 : Int32) (x4 : Int32) (x5 : Int32), k_48 h x0 x1 x2 x3 x4 x5 = some o → Le h o.2) {h : Hp} {x0 : Nat} {x1 : Int32} {x2 : Int32} {x4 : Int32} {x5 : Int32} {t0 : Int32} {t1 : Int32} (hE : sX15_book_125 F k_38 k_48 h x0 x1 x2 x4 x5 t0 t1 = some o) : Le h o.2 := by
  rcases br_e hE with ⟨_, hE⟩ | ⟨_, hE⟩
  · exact moX15_book_133 mk_38 mk_48 hE
  · exact moX15_book_133 mk_38 mk_48 hE
set_option maxRecDepth 20000 in
theorem moX15_book_116 {o : Int32 × Hp} {k_38 : Hp → Nat → Int32 → Int32 → Int32 → Int32 → Option (Int32 × Hp)} {k_48 : Hp → Nat → Int32 → Int32 → Int32 → Int32 → Int32 → Option (Int32 × Hp)} {F : Nat} (mk_38 : ∀ (h : Hp) (x0 : Nat) (x1 : Int32) (x2 : Int32) (x3 : Int32) (x4 : Int32), k_38 h x0 x1 x2 x3 x4 = some o → Le h o.2) (mk_48 : ∀ (h : Hp) (x0 : Nat) (x1 : Int32) (x2 : Int32) (x3 : Int32) (x4 : Int32) (x5 : Int32), k_48 h x0 x1 x2 x3 x4 x5 = some o → Le h o.2) {h : Hp} {x0 : Nat} {x1 : Int32} {x2 : Int32} {x4 : Int32} {x5 : Int32} {t0 : Nat} {t1 : Nat} {t2 : Int32} (hE : sX15_book_116 F k_38 k_48 h x0 x1 x2 x4 x5 t0 t1 t2 = some o) : Le h o.2 := by
  obtain ⟨r_1, er_1, hE⟩ := cl_e hE
  obtain ⟨g_2, hE⟩ := gd_e hE
  obtain ⟨r_3, er_3, hE⟩ := cl_e hE
  obtain ⟨o_4, eo_4, hE⟩ := cl_e hE
  refine (moX15_isSame eo_4).tr ?_
  exact moX15_book_125 mk_38 mk_48 hE
set_option maxRecDepth 20000 in
theorem moX15_book_106 {o : Int32 × Hp} {k_38 : Hp → Nat → Int32 → Int32 → Int32 → Int32 → Option (Int32 × Hp)} {k_48 : Hp → Nat → Int32 → Int32 → Int32 → Int32 → Int32 → Option (Int32 × Hp)} {F : Nat} (mk_38 : ∀ (h : Hp) (x0 : Nat) (x1 : Int32) (x2 : Int32) (x3 : Int32) (x4 : Int32), k_38 h x0 x1 x2 x3 x4 = some o → Le h o.2) (mk_48 : ∀ (h : Hp) (x0 : Nat) (x1 : Int32) (x2 : Int32) (x3 : Int32) (x4 : Int32) (x5 : Int32), k_48 h x0 x1 x2 x3 x4 x5 = some o → Le h o.2) {h : Hp} {x0 : Nat} {x1 : Int32} {x2 : Int32} {x3 : Int32} {x4 : Int32} {x5 : Int32} (hE : sX15_book_106 F k_38 k_48 h x0 x1 x2 x3 x4 x5 = some o) : Le h o.2 := by
  obtain ⟨o_1, eo_1, hE⟩ := cl_e hE
  refine (moX15_gameBoard eo_1).tr ?_
  exact moX15_book_116 mk_38 mk_48 hE
set_option maxRecDepth 20000 in
theorem moX15_book_48 {o : Int32 × Hp} {k_38 : Hp → Nat → Int32 → Int32 → Int32 → Int32 → Option (Int32 × Hp)} {F : Nat} (mk_38 : ∀ (h : Hp) (x0 : Nat) (x1 : Int32) (x2 : Int32) (x3 : Int32) (x4 : Int32), k_38 h x0 x1 x2 x3 x4 = some o → Le h o.2) : ∀ (f : Nat) {h : Hp} {x0 : Nat} {x1 : Int32} {x2 : Int32} {x3 : Int32} {x4 : Int32} {x5 : Int32}, sX15_book_48 F k_38 f h x0 x1 x2 x3 x4 x5 = some o → Le h o.2 := by
  intro f
  induction f with
  | zero =>
    intro h x0 x1 x2 x3 x4 x5 hE
    rw [sX15_book_48] at hE
    cases hE
  | succ f ih =>
    intro h x0 x1 x2 x3 x4 x5 hE
    rw [sX15_book_48] at hE
    have mk_48 : ∀ (h : Hp) (x0 : Nat) (x1 : Int32) (x2 : Int32) (x3 : Int32) (x4 : Int32) (x5 : Int32), sX15_book_48 F k_38 f h x0 x1 x2 x3 x4 x5 = some o → Le h o.2 := fun h x0 x1 x2 x3 x4 x5 hE => ih hE
    obtain ⟨r_1, er_1, hE⟩ := cl_e hE
    obtain ⟨g_2, hE⟩ := gd_e hE
    rcases br_e hE with ⟨_, hE⟩ | ⟨_, hE⟩
    · exact moX15_book_141 mk_38 hE
    · obtain ⟨r_4, er_4, hE⟩ := cl_e hE
      obtain ⟨g_5, hE⟩ := gd_e hE
      rcases br_e hE with ⟨_, hE⟩ | ⟨_, hE⟩
      · exact moX15_book_141 mk_38 hE
      · rcases br_e hE with ⟨_, hE⟩ | ⟨_, hE⟩
        · exact moX15_book_106 mk_38 mk_48 hE
        · obtain ⟨r_8, er_8, hE⟩ := cl_e hE
          obtain ⟨g_9, hE⟩ := gd_e hE
          rcases br_e hE with ⟨_, hE⟩ | ⟨_, hE⟩
          · exact moX15_book_135 mk_38 mk_48 hE
          · obtain ⟨r_11, er_11, hE⟩ := cl_e hE
            obtain ⟨g_12, hE⟩ := gd_e hE
            rcases br_e hE with ⟨_, hE⟩ | ⟨_, hE⟩
            · exact moX15_book_106 mk_38 mk_48 hE
            · exact moX15_book_135 mk_38 mk_48 hE
set_option maxRecDepth 20000 in
theorem moX15_book_38 {o : Int32 × Hp} {F : Nat} : ∀ (f : Nat) {h : Hp} {x0 : Nat} {x1 : Int32} {x2 : Int32} {x3 : Int32} {x4 : Int32}, sX15_book_38 F f h x0 x1 x2 x3 x4 = some o → Le h o.2 := by
  intro f
  induction f with
  | zero =>
    intro h x0 x1 x2 x3 x4 hE
    rw [sX15_book_38] at hE
    cases hE
  | succ f ih =>
    intro h x0 x1 x2 x3 x4 hE
    rw [sX15_book_38] at hE
    have mk_38 : ∀ (h : Hp) (x0 : Nat) (x1 : Int32) (x2 : Int32) (x3 : Int32) (x4 : Int32), sX15_book_38 F f h x0 x1 x2 x3 x4 = some o → Le h o.2 := fun h x0 x1 x2 x3 x4 hE => ih hE
    rcases br_e hE with ⟨_, hE⟩ | ⟨_, hE⟩
    · exact le_some2 hE
    · exact moX15_book_48 mk_38 _ hE
set_option maxRecDepth 20000 in
theorem moX15_book_33 {o : Int32 × Hp} {F : Nat} {h : Hp} {x0 : Nat} {x1 : Int32} {x2 : Int32} (hE : sX15_book_33 F h x0 x1 x2 = some o) : Le h o.2 := by
  exact moX15_book_38 _ hE
set_option maxRecDepth 20000 in
theorem moX15_book_5 {o : Int32 × Hp} {F : Nat} {h : Hp} {x0 : Nat} {x1 : Int32} {x2 : Int32} {t0 : Int32} (hE : sX15_book_5 F h x0 x1 x2 t0 = some o) : Le h o.2 := by
  rcases br_e hE with ⟨_, hE⟩ | ⟨_, hE⟩
  · exact moX15_book_30 hE
  · rcases br_e hE with ⟨_, hE⟩ | ⟨_, hE⟩
    · exact moX15_book_33 hE
    · rcases br_e hE with ⟨_, hE⟩ | ⟨_, hE⟩
      · exact moX15_book_30 hE
      · obtain ⟨r_4, er_4, hE⟩ := cl_e hE
        rcases br_e hE with ⟨_, hE⟩ | ⟨_, hE⟩
        · exact moX15_book_33 hE
        · exact moX15_book_30 hE
set_option maxRecDepth 20000 in
theorem moX15_book {o : Int32 × Hp} {F : Nat} {h : Hp} {x0 : Nat} {x1 : Int32} {x2 : Int32} (hE : sX15_book F h x0 x1 x2 = some o) : Le h o.2 := by
  obtain ⟨o_1, eo_1, hE⟩ := cl_e hE
  refine (moX15_moves eo_1).tr ?_
  exact moX15_book_5 hE
set_option maxRecDepth 20000 in
theorem bX15_book_30 {p : Program} {l : Launch} {e : Env} {s : State} {m : MethodId} {args : Array Value} {below : List Frame} {meth : Method} {c : Code} {X : Ec} {h0 : Hp} {o : Int32 × Hp} {F : Nat} (C : Cx X p s m args meth c RX15 cX15_book 6 (some .int) "book") {h : Hp} {H : Heap} {locs : List Loc} (hkl : Kl h0 h) (hW : Wx X h H) (hZ : va_S (aA (eB X)) s.heap H locs) (ls : Array Slot) (hl : lv_has ls 6 []) (hE : sX15_book_30 F h  = some o) : W p l e (rmA 9 238 h0 o.2) s m args below meth c H locs (hS h - hS h0) (hL h - hL h0) (MQ below (QIA X h0 o.1 o.2) args s (hS o.2 - hS h0) (hL o.2 - hL h0) (aA (eB X))) (F0 m 30 ls []) := by
  refine lv_bipush (v := (-102 : Int32)) C.1 C.2.1 dX15_book_30 (by decide) ?_
  exact x_iretA C rfl rfl hW hZ hkl hE dX15_book_32
set_option maxRecDepth 20000 in
theorem bX15_book_141 {p : Program} {l : Launch} {e : Env} {s : State} {m : MethodId} {args : Array Value} {below : List Frame} {meth : Method} {c : Code} {X : Ec} {h0 : Hp} {o : Int32 × Hp} {k_38 : Hp → Nat → Int32 → Int32 → Int32 → Int32 → Option (Int32 × Hp)} {F : Nat} (C : Cx X p s m args meth c RX15 cX15_book 6 (some .int) "book") (hk_38 : ∀ (h : Hp) (x0 : Nat) (x1 : Int32) (x2 : Int32) (x3 : Int32) (x4 : Int32) (H : Heap) (locs : List Loc), hK h x0 = 15 → Kl h0 h → Wx X h H → va_S (aA (eB X)) s.heap H locs → ∀ (ls : Array Slot), lv_has ls 6 [(0, .ref x0), (1, .int x1), (2, .int x2), (3, .int x3), (4, .int x4)] → k_38 h x0 x1 x2 x3 x4 = some o → W p l e (rmA 9 238 h0 o.2) s m args below meth c H locs (hS h - hS h0) (hL h - hL h0) (MQ below (QIA X h0 o.1 o.2) args s (hS o.2 - hS h0) (hL o.2 - hL h0) (aA (eB X))) (F0 m 38 ls [])) (mk_38 : ∀ (h : Hp) (x0 : Nat) (x1 : Int32) (x2 : Int32) (x3 : Int32) (x4 : Int32), k_38 h x0 x1 x2 x3 x4 = some o → Le h o.2) {h : Hp} {x0 : Nat} {x1 : Int32} {x2 : Int32} {x3 : Int32} {x4 : Int32} {H : Heap} {locs : List Loc} (k_x0 : hK h x0 = 15) (hkl : Kl h0 h) (hW : Wx X h H) (hZ : va_S (aA (eB X)) s.heap H locs) (ls : Array Slot) (hl : lv_has ls 6 [(0, .ref x0), (1, .int x1), (2, .int x2), (3, .int x3), (4, .int x4)]) (hE : sX15_book_141 F k_38 h x0 x1 x2 x3 x4 = some o) : W p l e (rmA 9 238 h0 o.2) s m args below meth c H locs (hS h - hS h0) (hL h - hL h0) (MQ below (QIA X h0 o.1 o.2) args s (hS o.2 - hS h0) (hL o.2 - hL h0) (aA (eB X))) (F0 m 141 ls []) := by
  obtain ⟨v_1, ev_1, hE⟩ := nm_e2 hE
  refine lv_iinc (v := v_1) (lv' := [(4, .int v_1), (0, .ref x0), (1, .int x1), (2, .int x2), (3, .int x3)]) C.1 C.2.1 dX15_book_141 hl (k := 4) rfl (by rw [ev_1]; rfl) (by decide) rfl (fun ls hl => ?_)
  refine lv_goto (tgt := 38) C.1 C.2.1 dX15_book_144 (by decide) ?_
  exact hk_38 _ _ _ _ _ _ _ _ k_x0 hkl hW hZ _ (lv_sub hl [1, 2, 3, 4, 0] rfl) hE
set_option maxRecDepth 20000 in
theorem bX15_book_135 {p : Program} {l : Launch} {e : Env} {s : State} {m : MethodId} {args : Array Value} {below : List Frame} {meth : Method} {c : Code} {X : Ec} {h0 : Hp} {o : Int32 × Hp} {k_38 : Hp → Nat → Int32 → Int32 → Int32 → Int32 → Option (Int32 × Hp)} {k_48 : Hp → Nat → Int32 → Int32 → Int32 → Int32 → Int32 → Option (Int32 × Hp)} {F : Nat} (C : Cx X p s m args meth c RX15 cX15_book 6 (some .int) "book") (hk_38 : ∀ (h : Hp) (x0 : Nat) (x1 : Int32) (x2 : Int32) (x3 : Int32) (x4 : Int32) (H : Heap) (locs : List Loc), hK h x0 = 15 → Kl h0 h → Wx X h H → va_S (aA (eB X)) s.heap H locs → ∀ (ls : Array Slot), lv_has ls 6 [(0, .ref x0), (1, .int x1), (2, .int x2), (3, .int x3), (4, .int x4)] → k_38 h x0 x1 x2 x3 x4 = some o → W p l e (rmA 9 238 h0 o.2) s m args below meth c H locs (hS h - hS h0) (hL h - hL h0) (MQ below (QIA X h0 o.1 o.2) args s (hS o.2 - hS h0) (hL o.2 - hL h0) (aA (eB X))) (F0 m 38 ls [])) (hk_48 : ∀ (h : Hp) (x0 : Nat) (x1 : Int32) (x2 : Int32) (x3 : Int32) (x4 : Int32) (x5 : Int32) (H : Heap) (locs : List Loc), hK h x0 = 15 → Kl h0 h → Wx X h H → va_S (aA (eB X)) s.heap H locs → ∀ (ls : Array Slot), lv_has ls 6 [(0, .ref x0), (1, .int x1), (2, .int x2), (3, .int x3), (4, .int x4), (5, .int x5)] → k_48 h x0 x1 x2 x3 x4 x5 = some o → W p l e (rmA 9 238 h0 o.2) s m args below meth c H locs (hS h - hS h0) (hL h - hL h0) (MQ below (QIA X h0 o.1 o.2) args s (hS o.2 - hS h0) (hL o.2 - hL h0) (aA (eB X))) (F0 m 48 ls [])) (mk_38 : ∀ (h : Hp) (x0 : Nat) (x1 : Int32) (x2 : Int32) (x3 : Int32) (x4 : Int32), k_38 h x0 x1 x2 x3 x4 = some o → Le h o.2) (mk_48 : ∀ (h : Hp) (x0 : Nat) (x1 : Int32) (x2 : Int32) (x3 : Int32) (x4 : Int32) (x5 : Int32), k_48 h x0 x1 x2 x3 x4 x5 = some o → Le h o.2) {h : Hp} {x0 : Nat} {x1 : Int32} {x2 : Int32} {x3 : Int32} {x4 : Int32} {x5 : Int32} {H : Heap} {locs : List Loc} (k_x0 : hK h x0 = 15) (hkl : Kl h0 h) (hW : Wx X h H) (hZ : va_S (aA (eB X)) s.heap H locs) (ls : Array Slot) (hl : lv_has ls 6 [(0, .ref x0), (1, .int x1), (2, .int x2), (3, .int x3), (4, .int x4), (5, .int x5)]) (hE : sX15_book_135 F k_38 k_48 h x0 x1 x2 x3 x4 x5 = some o) : W p l e (rmA 9 238 h0 o.2) s m args below meth c H locs (hS h - hS h0) (hL h - hL h0) (MQ below (QIA X h0 o.1 o.2) args s (hS o.2 - hS h0) (hL o.2 - hL h0) (aA (eB X))) (F0 m 135 ls []) := by
  obtain ⟨v_1, ev_1, hE⟩ := nm_e2 hE
  refine lv_iinc (v := v_1) (lv' := [(5, .int v_1), (0, .ref x0), (1, .int x1), (2, .int x2), (3, .int x3), (4, .int x4)]) C.1 C.2.1 dX15_book_135 hl (k := 5) rfl (by rw [ev_1]; rfl) (by decide) rfl (fun ls hl => ?_)
  refine lv_goto (tgt := 48) C.1 C.2.1 dX15_book_138 (by decide) ?_
  exact hk_48 _ _ _ _ _ _ _ _ _ k_x0 hkl hW hZ _ (lv_sub hl [1, 2, 3, 4, 5, 0] rfl) hE
set_option maxRecDepth 20000 in
theorem bX15_book_133 {p : Program} {l : Launch} {e : Env} {s : State} {m : MethodId} {args : Array Value} {below : List Frame} {meth : Method} {c : Code} {X : Ec} {h0 : Hp} {o : Int32 × Hp} {k_38 : Hp → Nat → Int32 → Int32 → Int32 → Int32 → Option (Int32 × Hp)} {k_48 : Hp → Nat → Int32 → Int32 → Int32 → Int32 → Int32 → Option (Int32 × Hp)} {F : Nat} (C : Cx X p s m args meth c RX15 cX15_book 6 (some .int) "book") (hk_38 : ∀ (h : Hp) (x0 : Nat) (x1 : Int32) (x2 : Int32) (x3 : Int32) (x4 : Int32) (H : Heap) (locs : List Loc), hK h x0 = 15 → Kl h0 h → Wx X h H → va_S (aA (eB X)) s.heap H locs → ∀ (ls : Array Slot), lv_has ls 6 [(0, .ref x0), (1, .int x1), (2, .int x2), (3, .int x3), (4, .int x4)] → k_38 h x0 x1 x2 x3 x4 = some o → W p l e (rmA 9 238 h0 o.2) s m args below meth c H locs (hS h - hS h0) (hL h - hL h0) (MQ below (QIA X h0 o.1 o.2) args s (hS o.2 - hS h0) (hL o.2 - hL h0) (aA (eB X))) (F0 m 38 ls [])) (hk_48 : ∀ (h : Hp) (x0 : Nat) (x1 : Int32) (x2 : Int32) (x3 : Int32) (x4 : Int32) (x5 : Int32) (H : Heap) (locs : List Loc), hK h x0 = 15 → Kl h0 h → Wx X h H → va_S (aA (eB X)) s.heap H locs → ∀ (ls : Array Slot), lv_has ls 6 [(0, .ref x0), (1, .int x1), (2, .int x2), (3, .int x3), (4, .int x4), (5, .int x5)] → k_48 h x0 x1 x2 x3 x4 x5 = some o → W p l e (rmA 9 238 h0 o.2) s m args below meth c H locs (hS h - hS h0) (hL h - hL h0) (MQ below (QIA X h0 o.1 o.2) args s (hS o.2 - hS h0) (hL o.2 - hL h0) (aA (eB X))) (F0 m 48 ls [])) (mk_38 : ∀ (h : Hp) (x0 : Nat) (x1 : Int32) (x2 : Int32) (x3 : Int32) (x4 : Int32), k_38 h x0 x1 x2 x3 x4 = some o → Le h o.2) (mk_48 : ∀ (h : Hp) (x0 : Nat) (x1 : Int32) (x2 : Int32) (x3 : Int32) (x4 : Int32) (x5 : Int32), k_48 h x0 x1 x2 x3 x4 x5 = some o → Le h o.2) {h : Hp} {x0 : Nat} {x1 : Int32} {x2 : Int32} {x4 : Int32} {x5 : Int32} {t0 : Int32} {t1 : Int32} {H : Heap} {locs : List Loc} (k_x0 : hK h x0 = 15) (hkl : Kl h0 h) (hW : Wx X h H) (hZ : va_S (aA (eB X)) s.heap H locs) (ls : Array Slot) (hl : lv_has ls 6 [(0, .ref x0), (1, .int x1), (2, .int x2), (4, .int x4), (5, .int x5)]) (hE : sX15_book_133 F k_38 k_48 h x0 x1 x2 x4 x5 t0 t1 = some o) : W p l e (rmA 9 238 h0 o.2) s m args below meth c H locs (hS h - hS h0) (hL h - hL h0) (MQ below (QIA X h0 o.1 o.2) args s (hS o.2 - hS h0) (hL o.2 - hL h0) (aA (eB X))) (F0 m 133 ls [.int t0, .int t1]) := by
  refine lv_iadd C.1 C.2.1 dX15_book_133 ?_
  obtain ⟨v_1, ev_1, hE⟩ := nm_e2 hE
  refine x_nmI ev_1 ?_
  refine lv_istore_n (lv' := [(3, .int v_1), (0, .ref x0), (1, .int x1), (2, .int x2), (4, .int x4), (5, .int x5)]) C.1 C.2.1 dX15_book_134 rfl hl (by decide) rfl (fun ls hl => ?_)
  exact bX15_book_135 C hk_38 hk_48 mk_38 mk_48 k_x0 hkl hW hZ _ (lv_sub hl [1, 2, 3, 0, 4, 5] rfl) hE
set_option maxRecDepth 20000 in
theorem bX15_book_125 {p : Program} {l : Launch} {e : Env} {s : State} {m : MethodId} {args : Array Value} {below : List Frame} {meth : Method} {c : Code} {X : Ec} {h0 : Hp} {o : Int32 × Hp} {k_38 : Hp → Nat → Int32 → Int32 → Int32 → Int32 → Option (Int32 × Hp)} {k_48 : Hp → Nat → Int32 → Int32 → Int32 → Int32 → Int32 → Option (Int32 × Hp)} {F : Nat} (C : Cx X p s m args meth c RX15 cX15_book 6 (some .int) "book") (hk_38 : ∀ (h : Hp) (x0 : Nat) (x1 : Int32) (x2 : Int32) (x3 : Int32) (x4 : Int32) (H : Heap) (locs : List Loc), hK h x0 = 15 → Kl h0 h → Wx X h H → va_S (aA (eB X)) s.heap H locs → ∀ (ls : Array Slot), lv_has ls 6 [(0, .ref x0), (1, .int x1), (2, .int x2), (3, .int x3), (4, .int x4)] → k_38 h x0 x1 x2 x3 x4 = some o → W p l e (rmA 9 238 h0 o.2) s m args below meth c H locs (hS h - hS h0) (hL h - hL h0) (MQ below (QIA X h0 o.1 o.2) args s (hS o.2 - hS h0) (hL o.2 - hL h0) (aA (eB X))) (F0 m 38 ls [])) (hk_48 : ∀ (h : Hp) (x0 : Nat) (x1 : Int32) (x2 : Int32) (x3 : Int32) (x4 : Int32) (x5 : Int32) (H : Heap) (locs : List Loc), hK h x0 = 15 → Kl h0 h → Wx X h H → va_S (aA (eB X)) s.heap H locs → ∀ (ls : Array Slot), lv_has ls 6 [(0, .ref x0), (1, .int x1), (2, .int x2), (3, .int x3), (4, .int x4), (5, .int x5)] → k_48 h x0 x1 x2 x3 x4 x5 = some o → W p l e (rmA 9 238 h0 o.2) s m args below meth c H locs (hS h - hS h0) (hL h - hL h0) (MQ below (QIA X h0 o.1 o.2) args s (hS o.2 - hS h0) (hL o.2 - hL h0) (aA (eB X))) (F0 m 48 ls [])) (mk_38 : ∀ (h : Hp) (x0 : Nat) (x1 : Int32) (x2 : Int32) (x3 : Int32) (x4 : Int32), k_38 h x0 x1 x2 x3 x4 = some o → Le h o.2) (mk_48 : ∀ (h : Hp) (x0 : Nat) (x1 : Int32) (x2 : Int32) (x3 : Int32) (x4 : Int32) (x5 : Int32), k_48 h x0 x1 x2 x3 x4 x5 = some o → Le h o.2) {h : Hp} {x0 : Nat} {x1 : Int32} {x2 : Int32} {x4 : Int32} {x5 : Int32} {t0 : Int32} {t1 : Int32} {H : Heap} {locs : List Loc} (k_x0 : hK h x0 = 15) (hkl : Kl h0 h) (hW : Wx X h H) (hZ : va_S (aA (eB X)) s.heap H locs) (ls : Array Slot) (hl : lv_has ls 6 [(0, .ref x0), (1, .int x1), (2, .int x2), (4, .int x4), (5, .int x5)]) (hE : sX15_book_125 F k_38 k_48 h x0 x1 x2 x4 x5 t0 t1 = some o) : W p l e (rmA 9 238 h0 o.2) s m args below meth c H locs (hS h - hS h0) (hL h - hL h0) (MQ below (QIA X h0 o.1 o.2) args s (hS o.2 - hS h0) (hL o.2 - hL h0) (aA (eB X))) (F0 m 125 ls [.int t0, .int t1]) := by
  refine lv_if_eq (tgt := 132) C.1 C.2.1 dX15_book_125 (by decide) (fun c_1 => ?_) (fun c_1 => ?_)
  · have hE := br_p hE c_1
    refine lv_iconst (v := (0 : Int32)) C.1 C.2.1 dX15_book_132 (by decide) ?_
    exact bX15_book_133 C hk_38 hk_48 mk_38 mk_48 k_x0 hkl hW hZ _ (lv_sub hl [0, 1, 2, 3, 4] rfl) hE
  · have hE := br_n hE c_1
    refine lv_iconst (v := (1 : Int32)) C.1 C.2.1 dX15_book_128 (by decide) ?_
    refine lv_goto (tgt := 133) C.1 C.2.1 dX15_book_129 (by decide) ?_
    exact bX15_book_133 C hk_38 hk_48 mk_38 mk_48 k_x0 hkl hW hZ _ (lv_sub hl [0, 1, 2, 3, 4] rfl) hE
set_option maxRecDepth 20000 in
theorem bX15_book_116 {p : Program} {l : Launch} {e : Env} {s : State} {m : MethodId} {args : Array Value} {below : List Frame} {meth : Method} {c : Code} {X : Ec} {h0 : Hp} {o : Int32 × Hp} {k_38 : Hp → Nat → Int32 → Int32 → Int32 → Int32 → Option (Int32 × Hp)} {k_48 : Hp → Nat → Int32 → Int32 → Int32 → Int32 → Int32 → Option (Int32 × Hp)} {F : Nat} (C : Cx X p s m args meth c RX15 cX15_book 6 (some .int) "book") (hk_38 : ∀ (h : Hp) (x0 : Nat) (x1 : Int32) (x2 : Int32) (x3 : Int32) (x4 : Int32) (H : Heap) (locs : List Loc), hK h x0 = 15 → Kl h0 h → Wx X h H → va_S (aA (eB X)) s.heap H locs → ∀ (ls : Array Slot), lv_has ls 6 [(0, .ref x0), (1, .int x1), (2, .int x2), (3, .int x3), (4, .int x4)] → k_38 h x0 x1 x2 x3 x4 = some o → W p l e (rmA 9 238 h0 o.2) s m args below meth c H locs (hS h - hS h0) (hL h - hL h0) (MQ below (QIA X h0 o.1 o.2) args s (hS o.2 - hS h0) (hL o.2 - hL h0) (aA (eB X))) (F0 m 38 ls [])) (hk_48 : ∀ (h : Hp) (x0 : Nat) (x1 : Int32) (x2 : Int32) (x3 : Int32) (x4 : Int32) (x5 : Int32) (H : Heap) (locs : List Loc), hK h x0 = 15 → Kl h0 h → Wx X h H → va_S (aA (eB X)) s.heap H locs → ∀ (ls : Array Slot), lv_has ls 6 [(0, .ref x0), (1, .int x1), (2, .int x2), (3, .int x3), (4, .int x4), (5, .int x5)] → k_48 h x0 x1 x2 x3 x4 x5 = some o → W p l e (rmA 9 238 h0 o.2) s m args below meth c H locs (hS h - hS h0) (hL h - hL h0) (MQ below (QIA X h0 o.1 o.2) args s (hS o.2 - hS h0) (hL o.2 - hL h0) (aA (eB X))) (F0 m 48 ls [])) (mk_38 : ∀ (h : Hp) (x0 : Nat) (x1 : Int32) (x2 : Int32) (x3 : Int32) (x4 : Int32), k_38 h x0 x1 x2 x3 x4 = some o → Le h o.2) (mk_48 : ∀ (h : Hp) (x0 : Nat) (x1 : Int32) (x2 : Int32) (x3 : Int32) (x4 : Int32) (x5 : Int32), k_48 h x0 x1 x2 x3 x4 x5 = some o → Le h o.2) {h : Hp} {x0 : Nat} {x1 : Int32} {x2 : Int32} {x4 : Int32} {x5 : Int32} {t0 : Nat} {t1 : Nat} {t2 : Int32} {H : Heap} {locs : List Loc} (k_x0 : hK h x0 = 15) (k_t0 : hK h t0 = 12) (k_t1 : hK h t1 = 15) (hkl : Kl h0 h) (hW : Wx X h H) (hZ : va_S (aA (eB X)) s.heap H locs) (ls : Array Slot) (hl : lv_has ls 6 [(0, .ref x0), (1, .int x1), (2, .int x2), (4, .int x4), (5, .int x5)]) (hE : sX15_book_116 F k_38 k_48 h x0 x1 x2 x4 x5 t0 t1 t2 = some o) : W p l e (rmA 9 238 h0 o.2) s m args below meth c H locs (hS h - hS h0) (hL h - hL h0) (MQ below (QIA X h0 o.1 o.2) args s (hS o.2 - hS h0) (hL o.2 - hL h0) (aA (eB X))) (F0 m 116 ls [.ref t0, .ref t1, .int t2]) := by
  refine lv_aload_n C.1 C.2.1 dX15_book_116 rfl (lv_at hl 0 rfl) ?_
  obtain ⟨r_1, er_1, hE⟩ := cl_e hE
  refine gf_X15_257 C hW k_x0 er_1 dX15_book_117 (fun k_r_1 => ?_)
  refine lv_iload_n C.1 C.2.1 dX15_book_120 rfl (lv_at hl 1 rfl) ?_
  obtain ⟨g_2, hE⟩ := gd_e hE
  obtain ⟨r_3, er_3, hE⟩ := cl_e hE
  refine y_aald (t0 := 5) C hW k_r_1 (by decide) (by decide) rfl rfl rfl (fun _ => rfl) g_2 er_3 dX15_book_121 (fun k_r_3 => ?_)
  obtain ⟨o_4, eo_4, hE⟩ := cl_e hE
  have m1 := moX15_isSame eo_4
  have m2 := moX15_book_125 mk_38 mk_48 hE
  refine x_kI (o := o_4) (z_runV (As := [.ref t0, .ref r_3]) (rest := [.int t2]) C (ct_X15_isSame l X F k_t1 k_t0 k_r_3 eo_4) cw_X15_658 hW hZ k_t1 (by decide) rfl rfl rfl hl.1 (Nat.le_of_ble_eq_true rfl) rfl dX15_book_122 ⟨Nat.le_of_ble_eq_true rfl, Nat.le_of_ble_eq_true rfl⟩ (rm_ok0 hkl m1 m2)) hZ (fun _ _ hW km hZ => ?_)
  replace hkl := hkl.tr km.l
  refine x_wc km ?_
  replace k_x0 := km.at k_x0 (by decide)
  exact bX15_book_125 C hk_38 hk_48 mk_38 mk_48 k_x0 hkl hW hZ _ (lv_sub hl [0, 1, 2, 3, 4] rfl) hE
set_option maxRecDepth 20000 in
theorem bX15_book_106 {p : Program} {l : Launch} {e : Env} {s : State} {m : MethodId} {args : Array Value} {below : List Frame} {meth : Method} {c : Code} {X : Ec} {h0 : Hp} {o : Int32 × Hp} {k_38 : Hp → Nat → Int32 → Int32 → Int32 → Int32 → Option (Int32 × Hp)} {k_48 : Hp → Nat → Int32 → Int32 → Int32 → Int32 → Int32 → Option (Int32 × Hp)} {F : Nat} (C : Cx X p s m args meth c RX15 cX15_book 6 (some .int) "book") (hk_38 : ∀ (h : Hp) (x0 : Nat) (x1 : Int32) (x2 : Int32) (x3 : Int32) (x4 : Int32) (H : Heap) (locs : List Loc), hK h x0 = 15 → Kl h0 h → Wx X h H → va_S (aA (eB X)) s.heap H locs → ∀ (ls : Array Slot), lv_has ls 6 [(0, .ref x0), (1, .int x1), (2, .int x2), (3, .int x3), (4, .int x4)] → k_38 h x0 x1 x2 x3 x4 = some o → W p l e (rmA 9 238 h0 o.2) s m args below meth c H locs (hS h - hS h0) (hL h - hL h0) (MQ below (QIA X h0 o.1 o.2) args s (hS o.2 - hS h0) (hL o.2 - hL h0) (aA (eB X))) (F0 m 38 ls [])) (hk_48 : ∀ (h : Hp) (x0 : Nat) (x1 : Int32) (x2 : Int32) (x3 : Int32) (x4 : Int32) (x5 : Int32) (H : Heap) (locs : List Loc), hK h x0 = 15 → Kl h0 h → Wx X h H → va_S (aA (eB X)) s.heap H locs → ∀ (ls : Array Slot), lv_has ls 6 [(0, .ref x0), (1, .int x1), (2, .int x2), (3, .int x3), (4, .int x4), (5, .int x5)] → k_48 h x0 x1 x2 x3 x4 x5 = some o → W p l e (rmA 9 238 h0 o.2) s m args below meth c H locs (hS h - hS h0) (hL h - hL h0) (MQ below (QIA X h0 o.1 o.2) args s (hS o.2 - hS h0) (hL o.2 - hL h0) (aA (eB X))) (F0 m 48 ls [])) (mk_38 : ∀ (h : Hp) (x0 : Nat) (x1 : Int32) (x2 : Int32) (x3 : Int32) (x4 : Int32), k_38 h x0 x1 x2 x3 x4 = some o → Le h o.2) (mk_48 : ∀ (h : Hp) (x0 : Nat) (x1 : Int32) (x2 : Int32) (x3 : Int32) (x4 : Int32) (x5 : Int32), k_48 h x0 x1 x2 x3 x4 x5 = some o → Le h o.2) {h : Hp} {x0 : Nat} {x1 : Int32} {x2 : Int32} {x3 : Int32} {x4 : Int32} {x5 : Int32} {H : Heap} {locs : List Loc} (k_x0 : hK h x0 = 15) (hkl : Kl h0 h) (hW : Wx X h H) (hZ : va_S (aA (eB X)) s.heap H locs) (ls : Array Slot) (hl : lv_has ls 6 [(0, .ref x0), (1, .int x1), (2, .int x2), (3, .int x3), (4, .int x4), (5, .int x5)]) (hE : sX15_book_106 F k_38 k_48 h x0 x1 x2 x3 x4 x5 = some o) : W p l e (rmA 9 238 h0 o.2) s m args below meth c H locs (hS h - hS h0) (hL h - hL h0) (MQ below (QIA X h0 o.1 o.2) args s (hS o.2 - hS h0) (hL o.2 - hL h0) (aA (eB X))) (F0 m 106 ls []) := by
  refine lv_iload_n C.1 C.2.1 dX15_book_106 rfl (lv_at hl 3 rfl) ?_
  refine lv_aload_n C.1 C.2.1 dX15_book_107 rfl (lv_at hl 0 rfl) ?_
  refine lv_aload_n C.1 C.2.1 dX15_book_108 rfl (lv_at hl 0 rfl) ?_
  refine lv_iload C.1 C.2.1 dX15_book_109 (lv_at hl 4 rfl) ?_
  refine lv_iload C.1 C.2.1 dX15_book_111 (lv_at hl 5 rfl) ?_
  obtain ⟨o_1, eo_1, hE⟩ := cl_e hE
  have m1 := moX15_gameBoard eo_1
  have m2 := moX15_book_116 mk_38 mk_48 hE
  refine x_kRA (o := o_1) hkl (z_runV (As := [.int x4, .int x5]) (rest := [.ref x0, .int x3]) C (ct_X15_gameBoard l X k_x0 eo_1) cw_X15_706 hW hZ k_x0 (by decide) rfl rfl rfl hl.1 (Nat.le_of_ble_eq_true rfl) rfl dX15_book_113 ⟨Nat.le_of_ble_eq_true rfl, Nat.le_of_ble_eq_true rfl⟩ (rm_ok hkl m1 m2)) hZ (fun _ _ hW km k_o_1_1 hZ => ?_)
  replace hkl := hkl.tr km
  replace k_x0 := km.at k_x0 (by decide)
  exact bX15_book_116 C hk_38 hk_48 mk_38 mk_48 k_x0 k_o_1_1 k_x0 hkl hW hZ _ (lv_sub hl [0, 1, 2, 4, 5] rfl) hE
set_option maxRecDepth 20000 in
theorem bX15_book_48 {p : Program} {l : Launch} {e : Env} {s : State} {m : MethodId} {args : Array Value} {below : List Frame} {meth : Method} {c : Code} {X : Ec} {h0 : Hp} {o : Int32 × Hp} {k_38 : Hp → Nat → Int32 → Int32 → Int32 → Int32 → Option (Int32 × Hp)} {F : Nat} (C : Cx X p s m args meth c RX15 cX15_book 6 (some .int) "book") (hk_38 : ∀ (h : Hp) (x0 : Nat) (x1 : Int32) (x2 : Int32) (x3 : Int32) (x4 : Int32) (H : Heap) (locs : List Loc), hK h x0 = 15 → Kl h0 h → Wx X h H → va_S (aA (eB X)) s.heap H locs → ∀ (ls : Array Slot), lv_has ls 6 [(0, .ref x0), (1, .int x1), (2, .int x2), (3, .int x3), (4, .int x4)] → k_38 h x0 x1 x2 x3 x4 = some o → W p l e (rmA 9 238 h0 o.2) s m args below meth c H locs (hS h - hS h0) (hL h - hL h0) (MQ below (QIA X h0 o.1 o.2) args s (hS o.2 - hS h0) (hL o.2 - hL h0) (aA (eB X))) (F0 m 38 ls [])) (mk_38 : ∀ (h : Hp) (x0 : Nat) (x1 : Int32) (x2 : Int32) (x3 : Int32) (x4 : Int32), k_38 h x0 x1 x2 x3 x4 = some o → Le h o.2) : ∀ (f : Nat) {h : Hp} {x0 : Nat} {x1 : Int32} {x2 : Int32} {x3 : Int32} {x4 : Int32} {x5 : Int32} {H : Heap} {locs : List Loc} (k_x0 : hK h x0 = 15), Kl h0 h → Wx X h H → va_S (aA (eB X)) s.heap H locs → ∀ (ls : Array Slot), lv_has ls 6 [(0, .ref x0), (1, .int x1), (2, .int x2), (3, .int x3), (4, .int x4), (5, .int x5)] → sX15_book_48 F k_38 f h x0 x1 x2 x3 x4 x5 = some o → W p l e (rmA 9 238 h0 o.2) s m args below meth c H locs (hS h - hS h0) (hL h - hL h0) (MQ below (QIA X h0 o.1 o.2) args s (hS o.2 - hS h0) (hL o.2 - hL h0) (aA (eB X))) (F0 m 48 ls []) := by
  intro f
  induction f with
  | zero =>
    intro h x0 x1 x2 x3 x4 x5 H locs k_x0 hkl hW hZ ls hl hE
    rw [sX15_book_48] at hE
    cases hE
  | succ f ih =>
    intro h x0 x1 x2 x3 x4 x5 H locs k_x0 hkl hW hZ ls hl hE
    rw [sX15_book_48] at hE
    have mk_48 : ∀ (h : Hp) (x0 : Nat) (x1 : Int32) (x2 : Int32) (x3 : Int32) (x4 : Int32) (x5 : Int32), sX15_book_48 F k_38 f h x0 x1 x2 x3 x4 x5 = some o → Le h o.2 := fun h x0 x1 x2 x3 x4 x5 hE => moX15_book_48 mk_38 _ hE
    have hk_48 : ∀ (h : Hp) (x0 : Nat) (x1 : Int32) (x2 : Int32) (x3 : Int32) (x4 : Int32) (x5 : Int32) (H : Heap) (locs : List Loc), hK h x0 = 15 → Kl h0 h → Wx X h H → va_S (aA (eB X)) s.heap H locs → ∀ (ls : Array Slot), lv_has ls 6 [(0, .ref x0), (1, .int x1), (2, .int x2), (3, .int x3), (4, .int x4), (5, .int x5)] → sX15_book_48 F k_38 f h x0 x1 x2 x3 x4 x5 = some o → W p l e (rmA 9 238 h0 o.2) s m args below meth c H locs (hS h - hS h0) (hL h - hL h0) (MQ below (QIA X h0 o.1 o.2) args s (hS o.2 - hS h0) (hL o.2 - hL h0) (aA (eB X))) (F0 m 48 ls []) := fun h x0 x1 x2 x3 x4 x5 H locs k_x0 a b c ls hl hE => ih k_x0 a b c ls hl hE
    refine lv_iload C.1 C.2.1 dX15_book_48 (lv_at hl 5 rfl) ?_
    refine lv_aload_n C.1 C.2.1 dX15_book_50 rfl (lv_at hl 0 rfl) ?_
    obtain ⟨r_1, er_1, hE⟩ := cl_e hE
    refine gf_X15_314 C hW k_x0 er_1 dX15_book_51 (fun k_r_1 => ?_)
    refine lv_iload C.1 C.2.1 dX15_book_54 (lv_at hl 4 rfl) ?_
    obtain ⟨g_2, hE⟩ := gd_e hE
    refine y_iald C hW k_r_1 g_2 dX15_book_56 ?_
    refine lv_icmp_gt (tgt := 141) C.1 C.2.1 dX15_book_57 (by decide) (fun c_3 => ?_) (fun c_3 => ?_)
    · have hE := br_p hE c_3
      exact bX15_book_141 C hk_38 mk_38 k_x0 hkl hW hZ _ (lv_sub hl [0, 1, 2, 3, 4] rfl) hE
    · have hE := br_n hE c_3
      refine lv_aload_n C.1 C.2.1 dX15_book_60 rfl (lv_at hl 0 rfl) ?_
      obtain ⟨r_4, er_4, hE⟩ := cl_e hE
      refine gf_X15_314 C hW k_x0 er_4 dX15_book_61 (fun k_r_4 => ?_)
      refine lv_iload C.1 C.2.1 dX15_book_64 (lv_at hl 4 rfl) ?_
      obtain ⟨g_5, hE⟩ := gd_e hE
      refine y_iald C hW k_r_4 g_5 dX15_book_66 ?_
      refine lv_iconst (v := (-1 : Int32)) C.1 C.2.1 dX15_book_67 (by decide) ?_
      refine lv_icmp_eq (tgt := 141) C.1 C.2.1 dX15_book_68 (by decide) (fun c_6 => ?_) (fun c_6 => ?_)
      · have hE := br_p hE c_6
        exact bX15_book_141 C hk_38 mk_38 k_x0 hkl hW hZ _ (lv_sub hl [0, 1, 2, 3, 4] rfl) hE
      · have hE := br_n hE c_6
        refine lv_iload_n C.1 C.2.1 dX15_book_71 rfl (lv_at hl 2 rfl) ?_
        refine lv_iconst (v := (-1 : Int32)) C.1 C.2.1 dX15_book_72 (by decide) ?_
        refine lv_icmp_eq (tgt := 106) C.1 C.2.1 dX15_book_73 (by decide) (fun c_7 => ?_) (fun c_7 => ?_)
        · have hE := br_p hE c_7
          exact bX15_book_106 C hk_38 hk_48 mk_38 mk_48 k_x0 hkl hW hZ _ (lv_sub hl [0, 1, 2, 3, 4, 5] rfl) hE
        · have hE := br_n hE c_7
          refine lv_iload C.1 C.2.1 dX15_book_76 (lv_at hl 5 rfl) ?_
          refine lv_aload_n C.1 C.2.1 dX15_book_78 rfl (lv_at hl 0 rfl) ?_
          obtain ⟨r_8, er_8, hE⟩ := cl_e hE
          refine gf_X15_314 C hW k_x0 er_8 dX15_book_79 (fun k_r_8 => ?_)
          refine lv_iload C.1 C.2.1 dX15_book_82 (lv_at hl 4 rfl) ?_
          obtain ⟨g_9, hE⟩ := gd_e hE
          refine y_iald C hW k_r_8 g_9 dX15_book_84 ?_
          refine lv_icmp_ge (tgt := 135) C.1 C.2.1 dX15_book_85 (by decide) (fun c_10 => ?_) (fun c_10 => ?_)
          · have hE := br_p hE c_10
            exact bX15_book_135 C hk_38 hk_48 mk_38 mk_48 k_x0 hkl hW hZ _ (lv_sub hl [0, 1, 2, 3, 4, 5] rfl) hE
          · have hE := br_n hE c_10
            refine lv_aload_n C.1 C.2.1 dX15_book_88 rfl (lv_at hl 0 rfl) ?_
            obtain ⟨r_11, er_11, hE⟩ := cl_e hE
            refine gf_X15_311 C hW k_x0 er_11 dX15_book_89 (fun k_r_11 => ?_)
            refine lv_iload C.1 C.2.1 dX15_book_92 (lv_at hl 4 rfl) ?_
            refine lv_sipush (v := (301 : Int32)) C.1 C.2.1 dX15_book_94 (by decide) ?_
            refine lv_imul C.1 C.2.1 dX15_book_97 ?_
            refine lv_iload C.1 C.2.1 dX15_book_98 (lv_at hl 5 rfl) ?_
            refine lv_iadd C.1 C.2.1 dX15_book_100 ?_
            obtain ⟨g_12, hE⟩ := gd_e hE
            refine y_iald C hW k_r_11 g_12 dX15_book_101 ?_
            refine lv_iload_n C.1 C.2.1 dX15_book_102 rfl (lv_at hl 2 rfl) ?_
            refine lv_icmp_ne (tgt := 135) C.1 C.2.1 dX15_book_103 (by decide) (fun c_13 => ?_) (fun c_13 => ?_)
            · have hE := br_n hE c_13
              exact bX15_book_135 C hk_38 hk_48 mk_38 mk_48 k_x0 hkl hW hZ _ (lv_sub hl [0, 1, 2, 3, 4, 5] rfl) hE
            · have hE := br_p hE c_13
              exact bX15_book_106 C hk_38 hk_48 mk_38 mk_48 k_x0 hkl hW hZ _ (lv_sub hl [0, 1, 2, 3, 4, 5] rfl) hE
set_option maxRecDepth 20000 in
theorem bX15_book_38 {p : Program} {l : Launch} {e : Env} {s : State} {m : MethodId} {args : Array Value} {below : List Frame} {meth : Method} {c : Code} {X : Ec} {h0 : Hp} {o : Int32 × Hp} {F : Nat} (C : Cx X p s m args meth c RX15 cX15_book 6 (some .int) "book") : ∀ (f : Nat) {h : Hp} {x0 : Nat} {x1 : Int32} {x2 : Int32} {x3 : Int32} {x4 : Int32} {H : Heap} {locs : List Loc} (k_x0 : hK h x0 = 15), Kl h0 h → Wx X h H → va_S (aA (eB X)) s.heap H locs → ∀ (ls : Array Slot), lv_has ls 6 [(0, .ref x0), (1, .int x1), (2, .int x2), (3, .int x3), (4, .int x4)] → sX15_book_38 F f h x0 x1 x2 x3 x4 = some o → W p l e (rmA 9 238 h0 o.2) s m args below meth c H locs (hS h - hS h0) (hL h - hL h0) (MQ below (QIA X h0 o.1 o.2) args s (hS o.2 - hS h0) (hL o.2 - hL h0) (aA (eB X))) (F0 m 38 ls []) := by
  intro f
  induction f with
  | zero =>
    intro h x0 x1 x2 x3 x4 H locs k_x0 hkl hW hZ ls hl hE
    rw [sX15_book_38] at hE
    cases hE
  | succ f ih =>
    intro h x0 x1 x2 x3 x4 H locs k_x0 hkl hW hZ ls hl hE
    rw [sX15_book_38] at hE
    have mk_38 : ∀ (h : Hp) (x0 : Nat) (x1 : Int32) (x2 : Int32) (x3 : Int32) (x4 : Int32), sX15_book_38 F f h x0 x1 x2 x3 x4 = some o → Le h o.2 := fun h x0 x1 x2 x3 x4 hE => moX15_book_38 _ hE
    have hk_38 : ∀ (h : Hp) (x0 : Nat) (x1 : Int32) (x2 : Int32) (x3 : Int32) (x4 : Int32) (H : Heap) (locs : List Loc), hK h x0 = 15 → Kl h0 h → Wx X h H → va_S (aA (eB X)) s.heap H locs → ∀ (ls : Array Slot), lv_has ls 6 [(0, .ref x0), (1, .int x1), (2, .int x2), (3, .int x3), (4, .int x4)] → sX15_book_38 F f h x0 x1 x2 x3 x4 = some o → W p l e (rmA 9 238 h0 o.2) s m args below meth c H locs (hS h - hS h0) (hL h - hL h0) (MQ below (QIA X h0 o.1 o.2) args s (hS o.2 - hS h0) (hL o.2 - hL h0) (aA (eB X))) (F0 m 38 ls []) := fun h x0 x1 x2 x3 x4 H locs k_x0 a b c ls hl hE => ih k_x0 a b c ls hl hE
    refine lv_iload C.1 C.2.1 dX15_book_38 (lv_at hl 4 rfl) ?_
    refine lv_bipush (v := (8 : Int32)) C.1 C.2.1 dX15_book_40 (by decide) ?_
    refine lv_icmp_ge (tgt := 147) C.1 C.2.1 dX15_book_42 (by decide) (fun c_1 => ?_) (fun c_1 => ?_)
    · have hE := br_p hE c_1
      refine lv_iload_n C.1 C.2.1 dX15_book_147 rfl (lv_at hl 3 rfl) ?_
      exact x_iretA C rfl rfl hW hZ hkl hE dX15_book_148
    · have hE := br_n hE c_1
      refine lv_iconst (v := (0 : Int32)) C.1 C.2.1 dX15_book_45 (by decide) ?_
      refine lv_istore (lv' := [(5, .int (0 : Int32)), (0, .ref x0), (1, .int x1), (2, .int x2), (3, .int x3), (4, .int x4)]) C.1 C.2.1 dX15_book_46 hl (by decide) rfl (fun ls hl => ?_)
      exact bX15_book_48 C hk_38 mk_38 F k_x0 hkl hW hZ _ (lv_sub hl [1, 2, 3, 4, 5, 0] rfl) hE
set_option maxRecDepth 20000 in
theorem bX15_book_33 {p : Program} {l : Launch} {e : Env} {s : State} {m : MethodId} {args : Array Value} {below : List Frame} {meth : Method} {c : Code} {X : Ec} {h0 : Hp} {o : Int32 × Hp} {F : Nat} (C : Cx X p s m args meth c RX15 cX15_book 6 (some .int) "book") {h : Hp} {x0 : Nat} {x1 : Int32} {x2 : Int32} {H : Heap} {locs : List Loc} (k_x0 : hK h x0 = 15) (hkl : Kl h0 h) (hW : Wx X h H) (hZ : va_S (aA (eB X)) s.heap H locs) (ls : Array Slot) (hl : lv_has ls 6 [(0, .ref x0), (1, .int x1), (2, .int x2)]) (hE : sX15_book_33 F h x0 x1 x2 = some o) : W p l e (rmA 9 238 h0 o.2) s m args below meth c H locs (hS h - hS h0) (hL h - hL h0) (MQ below (QIA X h0 o.1 o.2) args s (hS o.2 - hS h0) (hL o.2 - hL h0) (aA (eB X))) (F0 m 33 ls []) := by
  refine lv_iconst (v := (0 : Int32)) C.1 C.2.1 dX15_book_33 (by decide) ?_
  refine lv_istore_n (lv' := [(3, .int (0 : Int32)), (0, .ref x0), (1, .int x1), (2, .int x2)]) C.1 C.2.1 dX15_book_34 rfl hl (by decide) rfl (fun ls hl => ?_)
  refine lv_iconst (v := (0 : Int32)) C.1 C.2.1 dX15_book_35 (by decide) ?_
  refine lv_istore (lv' := [(4, .int (0 : Int32)), (3, .int (0 : Int32)), (0, .ref x0), (1, .int x1), (2, .int x2)]) C.1 C.2.1 dX15_book_36 hl (by decide) rfl (fun ls hl => ?_)
  exact bX15_book_38 C F k_x0 hkl hW hZ _ (lv_sub hl [2, 3, 4, 1, 0] rfl) hE
set_option maxRecDepth 20000 in
theorem bX15_book_5 {p : Program} {l : Launch} {e : Env} {s : State} {m : MethodId} {args : Array Value} {below : List Frame} {meth : Method} {c : Code} {X : Ec} {h0 : Hp} {o : Int32 × Hp} {F : Nat} (C : Cx X p s m args meth c RX15 cX15_book 6 (some .int) "book") {h : Hp} {x0 : Nat} {x1 : Int32} {x2 : Int32} {t0 : Int32} {H : Heap} {locs : List Loc} (k_x0 : hK h x0 = 15) (hkl : Kl h0 h) (hW : Wx X h H) (hZ : va_S (aA (eB X)) s.heap H locs) (ls : Array Slot) (hl : lv_has ls 6 [(0, .ref x0), (1, .int x1), (2, .int x2)]) (hE : sX15_book_5 F h x0 x1 x2 t0 = some o) : W p l e (rmA 9 238 h0 o.2) s m args below meth c H locs (hS h - hS h0) (hL h - hL h0) (MQ below (QIA X h0 o.1 o.2) args s (hS o.2 - hS h0) (hL o.2 - hL h0) (aA (eB X))) (F0 m 5 ls [.int t0]) := by
  refine lv_bipush (v := (-102 : Int32)) C.1 C.2.1 dX15_book_5 (by decide) ?_
  refine lv_icmp_eq (tgt := 30) C.1 C.2.1 dX15_book_7 (by decide) (fun c_1 => ?_) (fun c_1 => ?_)
  · have hE := br_p hE c_1
    exact bX15_book_30 C hkl hW hZ _ (lv_sub hl [] rfl) hE
  · have hE := br_n hE c_1
    refine lv_iload_n C.1 C.2.1 dX15_book_10 rfl (lv_at hl 2 rfl) ?_
    refine lv_iconst (v := (-1 : Int32)) C.1 C.2.1 dX15_book_11 (by decide) ?_
    refine lv_icmp_eq (tgt := 33) C.1 C.2.1 dX15_book_12 (by decide) (fun c_2 => ?_) (fun c_2 => ?_)
    · have hE := br_p hE c_2
      exact bX15_book_33 C k_x0 hkl hW hZ _ (lv_sub hl [0, 1, 2] rfl) hE
    · have hE := br_n hE c_2
      refine lv_iload_n C.1 C.2.1 dX15_book_15 rfl (lv_at hl 2 rfl) ?_
      refine lv_if_lt (tgt := 30) C.1 C.2.1 dX15_book_16 (by decide) (fun c_3 => ?_) (fun c_3 => ?_)
      · have hE := br_p hE c_3
        exact bX15_book_30 C hkl hW hZ _ (lv_sub hl [] rfl) hE
      · have hE := br_n hE c_3
        refine lv_iload_n C.1 C.2.1 dX15_book_19 rfl (lv_at hl 2 rfl) ?_
        refine lv_aload_n C.1 C.2.1 dX15_book_20 rfl (lv_at hl 0 rfl) ?_
        obtain ⟨r_4, er_4, hE⟩ := cl_e hE
        refine gf_X15_288 C hW k_x0 er_4 dX15_book_21 (fun k_r_4 => ?_)
        refine gf_X15_575 C hW k_r_4 dX15_book_24 ?_
        refine lv_icmp_lt (tgt := 33) C.1 C.2.1 dX15_book_27 (by decide) (fun c_5 => ?_) (fun c_5 => ?_)
        · have hE := br_p hE c_5
          exact bX15_book_33 C k_x0 hkl hW hZ _ (lv_sub hl [0, 1, 2] rfl) hE
        · have hE := br_n hE c_5
          exact bX15_book_30 C hkl hW hZ _ (lv_sub hl [] rfl) hE
set_option maxRecDepth 20000 in
theorem ct_X15_book (l : Launch) (X : Ec) (F : Nat) {h : Hp} {x0 : Nat} {x1 : Int32} {x2 : Int32} {o : Int32 × Hp} (k_x0 : hK h x0 = 15) (hE : sX15_book F h x0 x1 x2 = some o) : MetIA l yX15_book cX15_book 6 (some .int) 9 238 X [.ref x0, .int x1, .int x2] h o := by
  refine x_metA (oh := o.2) (by decide) (Nat.le_of_ble_eq_true rfl) ?_
  intro p e s m below meth c ls C hl hW hZ
  have hl : lv_has ls 6 [(0, .ref x0), (1, .int x1), (2, .int x2)] := hl
  have hkl : Kl h h := Kl.rf h
  refine lv_aload_n C.1 C.2.1 dX15_book_0 rfl (lv_at hl 0 rfl) ?_
  refine lv_iload_n C.1 C.2.1 dX15_book_1 rfl (lv_at hl 1 rfl) ?_
  obtain ⟨o_1, eo_1, hE⟩ := cl_e hE
  have m1 := moX15_moves eo_1
  have m2 := moX15_book_5 hE
  refine x_kI (o := o_1) (z_runV (As := [.int x1]) (rest := []) C (ct_X15_moves l X F k_x0 eo_1) cw_X15_668 hW hZ k_x0 (by decide) rfl rfl rfl hl.1 (Nat.le_of_ble_eq_true rfl) rfl dX15_book_2 ⟨Nat.le_of_ble_eq_true rfl, Nat.le_of_ble_eq_true rfl⟩ (rm_ok0 hkl m1 m2)) hZ (fun _ _ hW km hZ => ?_)
  replace hkl := hkl.tr km.l
  refine x_wc km ?_
  replace k_x0 := km.at k_x0 (by decide)
  exact bX15_book_5 C k_x0 hkl hW hZ _ (lv_sub hl [0, 1, 2] rfl) hE
theorem dX15_seenBy_0 : decode cX15_seenBy 0 = .ok (.lconst 0, 1) := by decide +kernel
theorem dX15_seenBy_1 : decode cX15_seenBy 1 = .ok (.lstore_n 3, 1) := by decide +kernel
theorem dX15_seenBy_2 : decode cX15_seenBy 2 = .ok (.iconst 0, 1) := by decide +kernel
theorem dX15_seenBy_3 : decode cX15_seenBy 3 = .ok (.istore 5, 2) := by decide +kernel
theorem dX15_seenBy_5 : decode cX15_seenBy 5 = .ok (.iload 5, 2) := by decide +kernel
theorem dX15_seenBy_7 : decode cX15_seenBy 7 = .ok (.aload_n 0, 1) := by decide +kernel
theorem dX15_seenBy_8 : decode cX15_seenBy 8 = .ok (.getfield 384, 3) := by decide +kernel
theorem dX15_seenBy_11 : decode cX15_seenBy 11 = .ok (.if_icmp .ge 99, 3) := by decide +kernel
theorem dX15_seenBy_14 : decode cX15_seenBy 14 = .ok (.aload_n 1, 1) := by decide +kernel
theorem dX15_seenBy_15 : decode cX15_seenBy 15 = .ok (.getfield 396, 3) := by decide +kernel
theorem dX15_seenBy_18 : decode cX15_seenBy 18 = .ok (.iload 5, 2) := by decide +kernel
theorem dX15_seenBy_20 : decode cX15_seenBy 20 = .ok (.iaload, 1) := by decide +kernel
theorem dX15_seenBy_21 : decode cX15_seenBy 21 = .ok (.istore 6, 2) := by decide +kernel
theorem dX15_seenBy_23 : decode cX15_seenBy 23 = .ok (.iload 6, 2) := by decide +kernel
theorem dX15_seenBy_25 : decode cX15_seenBy 25 = .ok (.ifCond .le 79, 3) := by decide +kernel
theorem dX15_seenBy_28 : decode cX15_seenBy 28 = .ok (.iload 6, 2) := by decide +kernel
theorem dX15_seenBy_30 : decode cX15_seenBy 30 = .ok (.invokestatic 489, 3) := by decide +kernel
theorem dX15_seenBy_33 : decode cX15_seenBy 33 = .ok (.iload_n 2, 1) := by decide +kernel
theorem dX15_seenBy_34 : decode cX15_seenBy 34 = .ok (.if_icmp .ne 70, 3) := by decide +kernel
theorem dX15_seenBy_37 : decode cX15_seenBy 37 = .ok (.lload_n 3, 1) := by decide +kernel
theorem dX15_seenBy_38 : decode cX15_seenBy 38 = .ok (.lconst 1, 1) := by decide +kernel
theorem dX15_seenBy_39 : decode cX15_seenBy 39 = .ok (.iload 5, 2) := by decide +kernel
theorem dX15_seenBy_41 : decode cX15_seenBy 41 = .ok (.lshl, 1) := by decide +kernel
theorem dX15_seenBy_42 : decode cX15_seenBy 42 = .ok (.lor, 1) := by decide +kernel
theorem dX15_seenBy_43 : decode cX15_seenBy 43 = .ok (.lstore_n 3, 1) := by decide +kernel
theorem dX15_seenBy_44 : decode cX15_seenBy 44 = .ok (.aload_n 0, 1) := by decide +kernel
theorem dX15_seenBy_45 : decode cX15_seenBy 45 = .ok (.aload_n 1, 1) := by decide +kernel
theorem dX15_seenBy_46 : decode cX15_seenBy 46 = .ok (.iload 5, 2) := by decide +kernel
theorem dX15_seenBy_48 : decode cX15_seenBy 48 = .ok (.iload_n 2, 1) := by decide +kernel
theorem dX15_seenBy_49 : decode cX15_seenBy 49 = .ok (.aload_n 1, 1) := by decide +kernel
theorem dX15_seenBy_50 : decode cX15_seenBy 50 = .ok (.getfield 452, 3) := by decide +kernel
theorem dX15_seenBy_53 : decode cX15_seenBy 53 = .ok (.if_icmp .ne 7, 3) := by decide +kernel
theorem dX15_seenBy_56 : decode cX15_seenBy 56 = .ok (.iconst 1, 1) := by decide +kernel
theorem dX15_seenBy_57 : decode cX15_seenBy 57 = .ok (.goto 4, 3) := by decide +kernel
theorem dX15_seenBy_60 : decode cX15_seenBy 60 = .ok (.iconst 0, 1) := by decide +kernel
theorem dX15_seenBy_61 : decode cX15_seenBy 61 = .ok (.invokevirtual 578, 3) := by decide +kernel
theorem dX15_seenBy_64 : decode cX15_seenBy 64 = .ok (.iconst 0, 1) := by decide +kernel
theorem dX15_seenBy_65 : decode cX15_seenBy 65 = .ok (.istore 7, 2) := by decide +kernel
theorem dX15_seenBy_67 : decode cX15_seenBy 67 = .ok (.iload 7, 2) := by decide +kernel
theorem dX15_seenBy_69 : decode cX15_seenBy 69 = .ok (.aload_n 0, 1) := by decide +kernel
theorem dX15_seenBy_70 : decode cX15_seenBy 70 = .ok (.getfield 384, 3) := by decide +kernel
theorem dX15_seenBy_73 : decode cX15_seenBy 73 = .ok (.if_icmp .ge 31, 3) := by decide +kernel
theorem dX15_seenBy_76 : decode cX15_seenBy 76 = .ok (.lload_n 3, 1) := by decide +kernel
theorem dX15_seenBy_77 : decode cX15_seenBy 77 = .ok (.aload_n 0, 1) := by decide +kernel
theorem dX15_seenBy_78 : decode cX15_seenBy 78 = .ok (.getfield 272, 3) := by decide +kernel
theorem dX15_seenBy_81 : decode cX15_seenBy 81 = .ok (.iload 7, 2) := by decide +kernel
theorem dX15_seenBy_83 : decode cX15_seenBy 83 = .ok (.iaload, 1) := by decide +kernel
theorem dX15_seenBy_84 : decode cX15_seenBy 84 = .ok (.iconst (-1), 1) := by decide +kernel
theorem dX15_seenBy_85 : decode cX15_seenBy 85 = .ok (.if_icmp .eq 10, 3) := by decide +kernel
theorem dX15_seenBy_88 : decode cX15_seenBy 88 = .ok (.lconst 1, 1) := by decide +kernel
theorem dX15_seenBy_89 : decode cX15_seenBy 89 = .ok (.iload 7, 2) := by decide +kernel
theorem dX15_seenBy_91 : decode cX15_seenBy 91 = .ok (.lshl, 1) := by decide +kernel
theorem dX15_seenBy_92 : decode cX15_seenBy 92 = .ok (.goto 4, 3) := by decide +kernel
theorem dX15_seenBy_95 : decode cX15_seenBy 95 = .ok (.lconst 0, 1) := by decide +kernel
theorem dX15_seenBy_96 : decode cX15_seenBy 96 = .ok (.lor, 1) := by decide +kernel
theorem dX15_seenBy_97 : decode cX15_seenBy 97 = .ok (.lstore_n 3, 1) := by decide +kernel
theorem dX15_seenBy_98 : decode cX15_seenBy 98 = .ok (.iinc 7 1, 3) := by decide +kernel
theorem dX15_seenBy_101 : decode cX15_seenBy 101 = .ok (.goto (-34), 3) := by decide +kernel
theorem dX15_seenBy_104 : decode cX15_seenBy 104 = .ok (.iinc 5 1, 3) := by decide +kernel
theorem dX15_seenBy_107 : decode cX15_seenBy 107 = .ok (.goto (-102), 3) := by decide +kernel
theorem dX15_seenBy_110 : decode cX15_seenBy 110 = .ok (.lload_n 3, 1) := by decide +kernel
theorem dX15_seenBy_111 : decode cX15_seenBy 111 = .ok (.lreturn, 1) := by decide +kernel
set_option maxRecDepth 20000 in
theorem moX15_seenBy_104 {o : Int64 × Hp} {k_5 : Hp → Nat → Nat → Int32 → Int64 → Int32 → Option (Int64 × Hp)} {F : Nat} (mk_5 : ∀ (h : Hp) (x0 : Nat) (x1 : Nat) (x2 : Int32) (x3 : Int64) (x5 : Int32), k_5 h x0 x1 x2 x3 x5 = some o → Le h o.2) {h : Hp} {x0 : Nat} {x1 : Nat} {x2 : Int32} {x3 : Int64} {x5 : Int32} (hE : sX15_seenBy_104 F k_5 h x0 x1 x2 x3 x5 = some o) : Le h o.2 := by
  obtain ⟨v_1, ev_1, hE⟩ := nm_e2 hE
  exact mk_5 _ _ _ _ _ _ hE
set_option maxRecDepth 20000 in
theorem moX15_seenBy_96 {o : Int64 × Hp} {k_5 : Hp → Nat → Nat → Int32 → Int64 → Int32 → Option (Int64 × Hp)} {k_67 : Hp → Nat → Nat → Int32 → Int64 → Int32 → Int32 → Option (Int64 × Hp)} {F : Nat} (mk_5 : ∀ (h : Hp) (x0 : Nat) (x1 : Nat) (x2 : Int32) (x3 : Int64) (x5 : Int32), k_5 h x0 x1 x2 x3 x5 = some o → Le h o.2) (mk_67 : ∀ (h : Hp) (x0 : Nat) (x1 : Nat) (x2 : Int32) (x3 : Int64) (x5 : Int32) (x7 : Int32), k_67 h x0 x1 x2 x3 x5 x7 = some o → Le h o.2) {h : Hp} {x0 : Nat} {x1 : Nat} {x2 : Int32} {x5 : Int32} {x7 : Int32} {t0 : Int64} {t1 : Int64} (hE : sX15_seenBy_96 F k_5 k_67 h x0 x1 x2 x5 x7 t0 t1 = some o) : Le h o.2 := by
  obtain ⟨v_1, ev_1, hE⟩ := nm_e2 hE
  obtain ⟨v_2, ev_2, hE⟩ := nm_e2 hE
  exact mk_67 _ _ _ _ _ _ _ hE
set_option maxRecDepth 20000 in
theorem moX15_seenBy_67 {o : Int64 × Hp} {k_5 : Hp → Nat → Nat → Int32 → Int64 → Int32 → Option (Int64 × Hp)} {F : Nat} (mk_5 : ∀ (h : Hp) (x0 : Nat) (x1 : Nat) (x2 : Int32) (x3 : Int64) (x5 : Int32), k_5 h x0 x1 x2 x3 x5 = some o → Le h o.2) : ∀ (f : Nat) {h : Hp} {x0 : Nat} {x1 : Nat} {x2 : Int32} {x3 : Int64} {x5 : Int32} {x7 : Int32}, sX15_seenBy_67 F k_5 f h x0 x1 x2 x3 x5 x7 = some o → Le h o.2 := by
  intro f
  induction f with
  | zero =>
    intro h x0 x1 x2 x3 x5 x7 hE
    rw [sX15_seenBy_67] at hE
    cases hE
  | succ f ih =>
    intro h x0 x1 x2 x3 x5 x7 hE
    rw [sX15_seenBy_67] at hE
    have mk_67 : ∀ (h : Hp) (x0 : Nat) (x1 : Nat) (x2 : Int32) (x3 : Int64) (x5 : Int32) (x7 : Int32), sX15_seenBy_67 F k_5 f h x0 x1 x2 x3 x5 x7 = some o → Le h o.2 := fun h x0 x1 x2 x3 x5 x7 hE => ih hE
    rcases br_e hE with ⟨_, hE⟩ | ⟨_, hE⟩
    · exact moX15_seenBy_104 mk_5 hE
    · obtain ⟨r_2, er_2, hE⟩ := cl_e hE
      obtain ⟨g_3, hE⟩ := gd_e hE
      rcases br_e hE with ⟨_, hE⟩ | ⟨_, hE⟩
      · exact moX15_seenBy_96 mk_5 mk_67 hE
      · exact moX15_seenBy_96 mk_5 mk_67 hE
set_option maxRecDepth 20000 in
theorem moX15_seenBy_61 {o : Int64 × Hp} {k_5 : Hp → Nat → Nat → Int32 → Int64 → Int32 → Option (Int64 × Hp)} {F : Nat} (mk_5 : ∀ (h : Hp) (x0 : Nat) (x1 : Nat) (x2 : Int32) (x3 : Int64) (x5 : Int32), k_5 h x0 x1 x2 x3 x5 = some o → Le h o.2) {h : Hp} {x0 : Nat} {x1 : Nat} {x2 : Int32} {x3 : Int64} {x5 : Int32} {t0 : Int32} {t1 : Int32} {t2 : Nat} {t3 : Nat} (hE : sX15_seenBy_61 F k_5 h x0 x1 x2 x3 x5 t0 t1 t2 t3 = some o) : Le h o.2 := by
  obtain ⟨o_1, eo_1, hE⟩ := cl_e hE
  refine (moX15_lead eo_1).tr ?_
  exact moX15_seenBy_67 mk_5 _ hE
set_option maxRecDepth 20000 in
theorem moX15_seenBy_5 {o : Int64 × Hp} {F : Nat} : ∀ (f : Nat) {h : Hp} {x0 : Nat} {x1 : Nat} {x2 : Int32} {x3 : Int64} {x5 : Int32}, sX15_seenBy_5 F f h x0 x1 x2 x3 x5 = some o → Le h o.2 := by
  intro f
  induction f with
  | zero =>
    intro h x0 x1 x2 x3 x5 hE
    rw [sX15_seenBy_5] at hE
    cases hE
  | succ f ih =>
    intro h x0 x1 x2 x3 x5 hE
    rw [sX15_seenBy_5] at hE
    have mk_5 : ∀ (h : Hp) (x0 : Nat) (x1 : Nat) (x2 : Int32) (x3 : Int64) (x5 : Int32), sX15_seenBy_5 F f h x0 x1 x2 x3 x5 = some o → Le h o.2 := fun h x0 x1 x2 x3 x5 hE => ih hE
    rcases br_e hE with ⟨_, hE⟩ | ⟨_, hE⟩
    · exact le_some2 hE
    · obtain ⟨r_2, er_2, hE⟩ := cl_e hE
      obtain ⟨g_3, hE⟩ := gd_e hE
      obtain ⟨v_4, ev_4, hE⟩ := nm_e2 hE
      rcases br_e hE with ⟨_, hE⟩ | ⟨_, hE⟩
      · exact moX15_seenBy_104 mk_5 hE
      · obtain ⟨o_6, eo_6, hE⟩ := cl_e hE
        refine (moX15_sideOf eo_6).tr ?_
        rcases br_e hE with ⟨_, hE⟩ | ⟨_, hE⟩
        · obtain ⟨v_8, ev_8, hE⟩ := nm_e2 hE
          rcases br_e hE with ⟨_, hE⟩ | ⟨_, hE⟩
          · exact moX15_seenBy_61 mk_5 hE
          · exact moX15_seenBy_61 mk_5 hE
        · exact moX15_seenBy_104 mk_5 hE
set_option maxRecDepth 20000 in
theorem moX15_seenBy {o : Int64 × Hp} {F : Nat} {h : Hp} {x0 : Nat} {x1 : Nat} {x2 : Int32} (hE : sX15_seenBy F h x0 x1 x2 = some o) : Le h o.2 := by
  exact moX15_seenBy_5 _ hE
set_option maxRecDepth 20000 in
theorem bX15_seenBy_104 {p : Program} {l : Launch} {e : Env} {s : State} {m : MethodId} {args : Array Value} {below : List Frame} {meth : Method} {c : Code} {X : Ec} {h0 : Hp} {o : Int64 × Hp} {k_5 : Hp → Nat → Nat → Int32 → Int64 → Int32 → Option (Int64 × Hp)} {F : Nat} (C : Cx X p s m args meth c RX15 cX15_seenBy 8 (some .long) "seenBy") (hk_5 : ∀ (h : Hp) (x0 : Nat) (x1 : Nat) (x2 : Int32) (x3 : Int64) (x5 : Int32) (H : Heap) (locs : List Loc), hK h x0 = 15 → hK h x1 = 12 → Km h0 h → Wx X h H → va_S (aA (eB X)) s.heap H locs → ∀ (ls : Array Slot), lv_has ls 8 [(0, .ref x0), (1, .ref x1), (2, .int x2), (3, .long x3), (5, .int x5)] → k_5 h x0 x1 x2 x3 x5 = some o → W p l e (rm 3 84) s m args below meth c H locs 0 0 (MQ below (QJ X h0 o.1 o.2) args s 0 0 (aA (eB X))) (F0 m 5 ls [])) {h : Hp} {x0 : Nat} {x1 : Nat} {x2 : Int32} {x3 : Int64} {x5 : Int32} {H : Heap} {locs : List Loc} (k_x0 : hK h x0 = 15) (k_x1 : hK h x1 = 12) (hkm : Km h0 h) (hW : Wx X h H) (hZ : va_S (aA (eB X)) s.heap H locs) (ls : Array Slot) (hl : lv_has ls 8 [(0, .ref x0), (1, .ref x1), (2, .int x2), (3, .long x3), (5, .int x5)]) (hE : sX15_seenBy_104 F k_5 h x0 x1 x2 x3 x5 = some o) : W p l e (rm 3 84) s m args below meth c H locs 0 0 (MQ below (QJ X h0 o.1 o.2) args s 0 0 (aA (eB X))) (F0 m 104 ls []) := by
  obtain ⟨v_1, ev_1, hE⟩ := nm_e2 hE
  refine lv_iinc (v := v_1) (lv' := [(5, .int v_1), (0, .ref x0), (1, .ref x1), (2, .int x2), (3, .long x3)]) C.1 C.2.1 dX15_seenBy_104 hl (k := 4) rfl (by rw [ev_1]; rfl) (by decide) rfl (fun ls hl => ?_)
  refine lv_goto (tgt := 5) C.1 C.2.1 dX15_seenBy_107 (by decide) ?_
  exact hk_5 _ _ _ _ _ _ _ _ k_x0 k_x1 hkm hW hZ _ (lv_sub hl [1, 2, 3, 4, 0] rfl) hE
set_option maxRecDepth 20000 in
theorem bX15_seenBy_96 {p : Program} {l : Launch} {e : Env} {s : State} {m : MethodId} {args : Array Value} {below : List Frame} {meth : Method} {c : Code} {X : Ec} {h0 : Hp} {o : Int64 × Hp} {k_5 : Hp → Nat → Nat → Int32 → Int64 → Int32 → Option (Int64 × Hp)} {k_67 : Hp → Nat → Nat → Int32 → Int64 → Int32 → Int32 → Option (Int64 × Hp)} {F : Nat} (C : Cx X p s m args meth c RX15 cX15_seenBy 8 (some .long) "seenBy") (hk_5 : ∀ (h : Hp) (x0 : Nat) (x1 : Nat) (x2 : Int32) (x3 : Int64) (x5 : Int32) (H : Heap) (locs : List Loc), hK h x0 = 15 → hK h x1 = 12 → Km h0 h → Wx X h H → va_S (aA (eB X)) s.heap H locs → ∀ (ls : Array Slot), lv_has ls 8 [(0, .ref x0), (1, .ref x1), (2, .int x2), (3, .long x3), (5, .int x5)] → k_5 h x0 x1 x2 x3 x5 = some o → W p l e (rm 3 84) s m args below meth c H locs 0 0 (MQ below (QJ X h0 o.1 o.2) args s 0 0 (aA (eB X))) (F0 m 5 ls [])) (hk_67 : ∀ (h : Hp) (x0 : Nat) (x1 : Nat) (x2 : Int32) (x3 : Int64) (x5 : Int32) (x7 : Int32) (H : Heap) (locs : List Loc), hK h x0 = 15 → hK h x1 = 12 → Km h0 h → Wx X h H → va_S (aA (eB X)) s.heap H locs → ∀ (ls : Array Slot), lv_has ls 8 [(0, .ref x0), (1, .ref x1), (2, .int x2), (3, .long x3), (5, .int x5), (7, .int x7)] → k_67 h x0 x1 x2 x3 x5 x7 = some o → W p l e (rm 3 84) s m args below meth c H locs 0 0 (MQ below (QJ X h0 o.1 o.2) args s 0 0 (aA (eB X))) (F0 m 67 ls [])) {h : Hp} {x0 : Nat} {x1 : Nat} {x2 : Int32} {x5 : Int32} {x7 : Int32} {t0 : Int64} {t1 : Int64} {H : Heap} {locs : List Loc} (k_x0 : hK h x0 = 15) (k_x1 : hK h x1 = 12) (hkm : Km h0 h) (hW : Wx X h H) (hZ : va_S (aA (eB X)) s.heap H locs) (ls : Array Slot) (hl : lv_has ls 8 [(0, .ref x0), (1, .ref x1), (2, .int x2), (5, .int x5), (7, .int x7)]) (hE : sX15_seenBy_96 F k_5 k_67 h x0 x1 x2 x5 x7 t0 t1 = some o) : W p l e (rm 3 84) s m args below meth c H locs 0 0 (MQ below (QJ X h0 o.1 o.2) args s 0 0 (aA (eB X))) (F0 m 96 ls [.long t0, .long t1]) := by
  refine lv_lor C.1 C.2.1 dX15_seenBy_96 ?_
  obtain ⟨v_1, ev_1, hE⟩ := nm_e2 hE
  refine x_nmJ ev_1 ?_
  refine lv_lstore_n (lv' := [(3, .long v_1), (0, .ref x0), (1, .ref x1), (2, .int x2), (5, .int x5), (7, .int x7)]) C.1 C.2.1 dX15_seenBy_97 rfl hl (by decide) rfl (fun ls hl => ?_)
  obtain ⟨v_2, ev_2, hE⟩ := nm_e2 hE
  refine lv_iinc (v := v_2) (lv' := [(7, .int v_2), (3, .long v_1), (0, .ref x0), (1, .ref x1), (2, .int x2), (5, .int x5)]) C.1 C.2.1 dX15_seenBy_98 hl (k := 5) rfl (by rw [ev_2]; rfl) (by decide) rfl (fun ls hl => ?_)
  refine lv_goto (tgt := 67) C.1 C.2.1 dX15_seenBy_101 (by decide) ?_
  exact hk_67 _ _ _ _ _ _ _ _ _ k_x0 k_x1 hkm hW hZ _ (lv_sub hl [2, 3, 4, 1, 5, 0] rfl) hE
set_option maxRecDepth 20000 in
theorem bX15_seenBy_67 {p : Program} {l : Launch} {e : Env} {s : State} {m : MethodId} {args : Array Value} {below : List Frame} {meth : Method} {c : Code} {X : Ec} {h0 : Hp} {o : Int64 × Hp} {k_5 : Hp → Nat → Nat → Int32 → Int64 → Int32 → Option (Int64 × Hp)} {F : Nat} (C : Cx X p s m args meth c RX15 cX15_seenBy 8 (some .long) "seenBy") (hk_5 : ∀ (h : Hp) (x0 : Nat) (x1 : Nat) (x2 : Int32) (x3 : Int64) (x5 : Int32) (H : Heap) (locs : List Loc), hK h x0 = 15 → hK h x1 = 12 → Km h0 h → Wx X h H → va_S (aA (eB X)) s.heap H locs → ∀ (ls : Array Slot), lv_has ls 8 [(0, .ref x0), (1, .ref x1), (2, .int x2), (3, .long x3), (5, .int x5)] → k_5 h x0 x1 x2 x3 x5 = some o → W p l e (rm 3 84) s m args below meth c H locs 0 0 (MQ below (QJ X h0 o.1 o.2) args s 0 0 (aA (eB X))) (F0 m 5 ls [])) : ∀ (f : Nat) {h : Hp} {x0 : Nat} {x1 : Nat} {x2 : Int32} {x3 : Int64} {x5 : Int32} {x7 : Int32} {H : Heap} {locs : List Loc} (k_x0 : hK h x0 = 15) (k_x1 : hK h x1 = 12), Km h0 h → Wx X h H → va_S (aA (eB X)) s.heap H locs → ∀ (ls : Array Slot), lv_has ls 8 [(0, .ref x0), (1, .ref x1), (2, .int x2), (3, .long x3), (5, .int x5), (7, .int x7)] → sX15_seenBy_67 F k_5 f h x0 x1 x2 x3 x5 x7 = some o → W p l e (rm 3 84) s m args below meth c H locs 0 0 (MQ below (QJ X h0 o.1 o.2) args s 0 0 (aA (eB X))) (F0 m 67 ls []) := by
  intro f
  induction f with
  | zero =>
    intro h x0 x1 x2 x3 x5 x7 H locs k_x0 k_x1 hkm hW hZ ls hl hE
    rw [sX15_seenBy_67] at hE
    cases hE
  | succ f ih =>
    intro h x0 x1 x2 x3 x5 x7 H locs k_x0 k_x1 hkm hW hZ ls hl hE
    rw [sX15_seenBy_67] at hE
    have hk_67 : ∀ (h : Hp) (x0 : Nat) (x1 : Nat) (x2 : Int32) (x3 : Int64) (x5 : Int32) (x7 : Int32) (H : Heap) (locs : List Loc), hK h x0 = 15 → hK h x1 = 12 → Km h0 h → Wx X h H → va_S (aA (eB X)) s.heap H locs → ∀ (ls : Array Slot), lv_has ls 8 [(0, .ref x0), (1, .ref x1), (2, .int x2), (3, .long x3), (5, .int x5), (7, .int x7)] → sX15_seenBy_67 F k_5 f h x0 x1 x2 x3 x5 x7 = some o → W p l e (rm 3 84) s m args below meth c H locs 0 0 (MQ below (QJ X h0 o.1 o.2) args s 0 0 (aA (eB X))) (F0 m 67 ls []) := fun h x0 x1 x2 x3 x5 x7 H locs k_x0 k_x1 a b c ls hl hE => ih k_x0 k_x1 a b c ls hl hE
    refine lv_iload C.1 C.2.1 dX15_seenBy_67 (lv_at hl 5 rfl) ?_
    refine lv_aload_n C.1 C.2.1 dX15_seenBy_69 rfl (lv_at hl 0 rfl) ?_
    refine gf_X15_384 C hW k_x0 dX15_seenBy_70 ?_
    refine lv_icmp_ge (tgt := 104) C.1 C.2.1 dX15_seenBy_73 (by decide) (fun c_1 => ?_) (fun c_1 => ?_)
    · have hE := br_p hE c_1
      exact bX15_seenBy_104 C hk_5 k_x0 k_x1 hkm hW hZ _ (lv_sub hl [0, 1, 2, 3, 4] rfl) hE
    · have hE := br_n hE c_1
      refine lv_lload_n C.1 C.2.1 dX15_seenBy_76 rfl (lv_at hl 3 rfl) ?_
      refine lv_aload_n C.1 C.2.1 dX15_seenBy_77 rfl (lv_at hl 0 rfl) ?_
      obtain ⟨r_2, er_2, hE⟩ := cl_e hE
      refine gf_X15_272 C hW k_x0 er_2 dX15_seenBy_78 (fun k_r_2 => ?_)
      refine lv_iload C.1 C.2.1 dX15_seenBy_81 (lv_at hl 5 rfl) ?_
      obtain ⟨g_3, hE⟩ := gd_e hE
      refine y_iald C hW k_r_2 g_3 dX15_seenBy_83 ?_
      refine lv_iconst (v := (-1 : Int32)) C.1 C.2.1 dX15_seenBy_84 (by decide) ?_
      refine lv_icmp_eq (tgt := 95) C.1 C.2.1 dX15_seenBy_85 (by decide) (fun c_4 => ?_) (fun c_4 => ?_)
      · have hE := br_p hE c_4
        refine lv_lconst (v := (0 : Int64)) C.1 C.2.1 dX15_seenBy_95 (by decide) ?_
        exact bX15_seenBy_96 C hk_5 hk_67 k_x0 k_x1 hkm hW hZ _ (lv_sub hl [0, 1, 2, 4, 5] rfl) hE
      · have hE := br_n hE c_4
        refine lv_lconst (v := (1 : Int64)) C.1 C.2.1 dX15_seenBy_88 (by decide) ?_
        refine lv_iload C.1 C.2.1 dX15_seenBy_89 (lv_at hl 5 rfl) ?_
        refine lv_lshl C.1 C.2.1 dX15_seenBy_91 rfl ?_
        refine lv_goto (tgt := 96) C.1 C.2.1 dX15_seenBy_92 (by decide) ?_
        exact bX15_seenBy_96 C hk_5 hk_67 k_x0 k_x1 hkm hW hZ _ (lv_sub hl [0, 1, 2, 4, 5] rfl) hE
set_option maxRecDepth 20000 in
theorem bX15_seenBy_61 {p : Program} {l : Launch} {e : Env} {s : State} {m : MethodId} {args : Array Value} {below : List Frame} {meth : Method} {c : Code} {X : Ec} {h0 : Hp} {o : Int64 × Hp} {k_5 : Hp → Nat → Nat → Int32 → Int64 → Int32 → Option (Int64 × Hp)} {F : Nat} (C : Cx X p s m args meth c RX15 cX15_seenBy 8 (some .long) "seenBy") (hk_5 : ∀ (h : Hp) (x0 : Nat) (x1 : Nat) (x2 : Int32) (x3 : Int64) (x5 : Int32) (H : Heap) (locs : List Loc), hK h x0 = 15 → hK h x1 = 12 → Km h0 h → Wx X h H → va_S (aA (eB X)) s.heap H locs → ∀ (ls : Array Slot), lv_has ls 8 [(0, .ref x0), (1, .ref x1), (2, .int x2), (3, .long x3), (5, .int x5)] → k_5 h x0 x1 x2 x3 x5 = some o → W p l e (rm 3 84) s m args below meth c H locs 0 0 (MQ below (QJ X h0 o.1 o.2) args s 0 0 (aA (eB X))) (F0 m 5 ls [])) {h : Hp} {x0 : Nat} {x1 : Nat} {x2 : Int32} {x3 : Int64} {x5 : Int32} {t0 : Int32} {t1 : Int32} {t2 : Nat} {t3 : Nat} {H : Heap} {locs : List Loc} (k_x0 : hK h x0 = 15) (k_x1 : hK h x1 = 12) (k_t2 : hK h t2 = 12) (k_t3 : hK h t3 = 15) (hkm : Km h0 h) (hW : Wx X h H) (hZ : va_S (aA (eB X)) s.heap H locs) (ls : Array Slot) (hl : lv_has ls 8 [(0, .ref x0), (1, .ref x1), (2, .int x2), (3, .long x3), (5, .int x5)]) (hE : sX15_seenBy_61 F k_5 h x0 x1 x2 x3 x5 t0 t1 t2 t3 = some o) : W p l e (rm 3 84) s m args below meth c H locs 0 0 (MQ below (QJ X h0 o.1 o.2) args s 0 0 (aA (eB X))) (F0 m 61 ls [.int t0, .int t1, .ref t2, .ref t3]) := by
  obtain ⟨o_1, eo_1, hE⟩ := cl_e hE
  refine x_kV (o := o_1) (z_runV (As := [.ref t2, .int t1, .int t0]) (rest := []) C (ct_X15_lead l X F k_t3 k_t2 eo_1) cw_X15_578 hW hZ k_t3 (by decide) rfl rfl rfl hl.1 (Nat.le_of_ble_eq_true rfl) rfl dX15_seenBy_61 ⟨Nat.le_of_ble_eq_true rfl, Nat.le_of_ble_eq_true rfl⟩ ⟨Nat.le_refl _, Nat.le_refl _⟩) hZ (fun _ _ hW km hZ => ?_)
  replace hkm := hkm.tr km
  replace k_x0 := km.at k_x0 (by decide)
  replace k_x1 := km.at k_x1 (by decide)
  refine lv_iconst (v := (0 : Int32)) C.1 C.2.1 dX15_seenBy_64 (by decide) ?_
  refine lv_istore (lv' := [(7, .int (0 : Int32)), (0, .ref x0), (1, .ref x1), (2, .int x2), (3, .long x3), (5, .int x5)]) C.1 C.2.1 dX15_seenBy_65 hl (by decide) rfl (fun ls hl => ?_)
  exact bX15_seenBy_67 C hk_5 F k_x0 k_x1 hkm hW hZ _ (lv_sub hl [1, 2, 3, 4, 5, 0] rfl) hE
set_option maxRecDepth 20000 in
theorem bX15_seenBy_5 {p : Program} {l : Launch} {e : Env} {s : State} {m : MethodId} {args : Array Value} {below : List Frame} {meth : Method} {c : Code} {X : Ec} {h0 : Hp} {o : Int64 × Hp} {F : Nat} (C : Cx X p s m args meth c RX15 cX15_seenBy 8 (some .long) "seenBy") : ∀ (f : Nat) {h : Hp} {x0 : Nat} {x1 : Nat} {x2 : Int32} {x3 : Int64} {x5 : Int32} {H : Heap} {locs : List Loc} (k_x0 : hK h x0 = 15) (k_x1 : hK h x1 = 12), Km h0 h → Wx X h H → va_S (aA (eB X)) s.heap H locs → ∀ (ls : Array Slot), lv_has ls 8 [(0, .ref x0), (1, .ref x1), (2, .int x2), (3, .long x3), (5, .int x5)] → sX15_seenBy_5 F f h x0 x1 x2 x3 x5 = some o → W p l e (rm 3 84) s m args below meth c H locs 0 0 (MQ below (QJ X h0 o.1 o.2) args s 0 0 (aA (eB X))) (F0 m 5 ls []) := by
  intro f
  induction f with
  | zero =>
    intro h x0 x1 x2 x3 x5 H locs k_x0 k_x1 hkm hW hZ ls hl hE
    rw [sX15_seenBy_5] at hE
    cases hE
  | succ f ih =>
    intro h x0 x1 x2 x3 x5 H locs k_x0 k_x1 hkm hW hZ ls hl hE
    rw [sX15_seenBy_5] at hE
    have hk_5 : ∀ (h : Hp) (x0 : Nat) (x1 : Nat) (x2 : Int32) (x3 : Int64) (x5 : Int32) (H : Heap) (locs : List Loc), hK h x0 = 15 → hK h x1 = 12 → Km h0 h → Wx X h H → va_S (aA (eB X)) s.heap H locs → ∀ (ls : Array Slot), lv_has ls 8 [(0, .ref x0), (1, .ref x1), (2, .int x2), (3, .long x3), (5, .int x5)] → sX15_seenBy_5 F f h x0 x1 x2 x3 x5 = some o → W p l e (rm 3 84) s m args below meth c H locs 0 0 (MQ below (QJ X h0 o.1 o.2) args s 0 0 (aA (eB X))) (F0 m 5 ls []) := fun h x0 x1 x2 x3 x5 H locs k_x0 k_x1 a b c ls hl hE => ih k_x0 k_x1 a b c ls hl hE
    refine lv_iload C.1 C.2.1 dX15_seenBy_5 (lv_at hl 4 rfl) ?_
    refine lv_aload_n C.1 C.2.1 dX15_seenBy_7 rfl (lv_at hl 0 rfl) ?_
    refine gf_X15_384 C hW k_x0 dX15_seenBy_8 ?_
    refine lv_icmp_ge (tgt := 110) C.1 C.2.1 dX15_seenBy_11 (by decide) (fun c_1 => ?_) (fun c_1 => ?_)
    · have hE := br_p hE c_1
      refine lv_lload_n C.1 C.2.1 dX15_seenBy_110 rfl (lv_at hl 3 rfl) ?_
      exact x_lret C rfl hW hZ hkm hE dX15_seenBy_111
    · have hE := br_n hE c_1
      refine lv_aload_n C.1 C.2.1 dX15_seenBy_14 rfl (lv_at hl 1 rfl) ?_
      obtain ⟨r_2, er_2, hE⟩ := cl_e hE
      refine gf_X15_396 C hW k_x1 er_2 dX15_seenBy_15 (fun k_r_2 => ?_)
      refine lv_iload C.1 C.2.1 dX15_seenBy_18 (lv_at hl 4 rfl) ?_
      obtain ⟨g_3, hE⟩ := gd_e hE
      refine y_iald C hW k_r_2 g_3 dX15_seenBy_20 ?_
      obtain ⟨v_4, ev_4, hE⟩ := nm_e2 hE
      refine x_nmI ev_4 ?_
      refine lv_istore (lv' := [(6, .int v_4), (0, .ref x0), (1, .ref x1), (2, .int x2), (3, .long x3), (5, .int x5)]) C.1 C.2.1 dX15_seenBy_21 hl (by decide) rfl (fun ls hl => ?_)
      refine lv_iload C.1 C.2.1 dX15_seenBy_23 (lv_at hl 0 rfl) ?_
      refine lv_if_le (tgt := 104) C.1 C.2.1 dX15_seenBy_25 (by decide) (fun c_5 => ?_) (fun c_5 => ?_)
      · have hE := br_p hE c_5
        exact bX15_seenBy_104 C hk_5 k_x0 k_x1 hkm hW hZ _ (lv_sub hl [1, 2, 3, 4, 5] rfl) hE
      · have hE := br_n hE c_5
        refine lv_iload C.1 C.2.1 dX15_seenBy_28 (lv_at hl 0 rfl) ?_
        obtain ⟨o_6, eo_6, hE⟩ := cl_e hE
        refine x_kI (o := o_6) (z_runS (As := [.int v_4]) (rest := []) C (ct_X15_sideOf l X eo_6) cw_X15_489 hW hZ rfl hl.1 (Nat.le_of_ble_eq_true rfl) rfl dX15_seenBy_30 ⟨Nat.le_of_ble_eq_true rfl, Nat.le_of_ble_eq_true rfl⟩ ⟨Nat.le_refl _, Nat.le_refl _⟩) hZ (fun _ _ hW km hZ => ?_)
        replace hkm := hkm.tr km
        replace k_x0 := km.at k_x0 (by decide)
        replace k_x1 := km.at k_x1 (by decide)
        refine lv_iload_n C.1 C.2.1 dX15_seenBy_33 rfl (lv_at hl 3 rfl) ?_
        refine lv_icmp_ne (tgt := 104) C.1 C.2.1 dX15_seenBy_34 (by decide) (fun c_7 => ?_) (fun c_7 => ?_)
        · have hE := br_n hE c_7
          exact bX15_seenBy_104 C hk_5 k_x0 k_x1 hkm hW hZ _ (lv_sub hl [1, 2, 3, 4, 5] rfl) hE
        · have hE := br_p hE c_7
          refine lv_lload_n C.1 C.2.1 dX15_seenBy_37 rfl (lv_at hl 4 rfl) ?_
          refine lv_lconst (v := (1 : Int64)) C.1 C.2.1 dX15_seenBy_38 (by decide) ?_
          refine lv_iload C.1 C.2.1 dX15_seenBy_39 (lv_at hl 5 rfl) ?_
          refine lv_lshl C.1 C.2.1 dX15_seenBy_41 rfl ?_
          refine lv_lor C.1 C.2.1 dX15_seenBy_42 ?_
          obtain ⟨v_8, ev_8, hE⟩ := nm_e2 hE
          refine x_nmJ ev_8 ?_
          refine lv_lstore_n (lv' := [(3, .long v_8), (6, .int v_4), (0, .ref x0), (1, .ref x1), (2, .int x2), (5, .int x5)]) C.1 C.2.1 dX15_seenBy_43 rfl hl (by decide) rfl (fun ls hl => ?_)
          refine lv_aload_n C.1 C.2.1 dX15_seenBy_44 rfl (lv_at hl 2 rfl) ?_
          refine lv_aload_n C.1 C.2.1 dX15_seenBy_45 rfl (lv_at hl 3 rfl) ?_
          refine lv_iload C.1 C.2.1 dX15_seenBy_46 (lv_at hl 5 rfl) ?_
          refine lv_iload_n C.1 C.2.1 dX15_seenBy_48 rfl (lv_at hl 4 rfl) ?_
          refine lv_aload_n C.1 C.2.1 dX15_seenBy_49 rfl (lv_at hl 3 rfl) ?_
          refine gf_X15_452 C hW k_x1 dX15_seenBy_50 ?_
          refine lv_icmp_ne (tgt := 60) C.1 C.2.1 dX15_seenBy_53 (by decide) (fun c_9 => ?_) (fun c_9 => ?_)
          · have hE := br_n hE c_9
            refine lv_iconst (v := (0 : Int32)) C.1 C.2.1 dX15_seenBy_60 (by decide) ?_
            exact bX15_seenBy_61 C hk_5 k_x0 k_x1 k_x1 k_x0 hkm hW hZ _ (lv_sub hl [2, 3, 4, 0, 5] rfl) hE
          · have hE := br_p hE c_9
            refine lv_iconst (v := (1 : Int32)) C.1 C.2.1 dX15_seenBy_56 (by decide) ?_
            refine lv_goto (tgt := 61) C.1 C.2.1 dX15_seenBy_57 (by decide) ?_
            exact bX15_seenBy_61 C hk_5 k_x0 k_x1 k_x1 k_x0 hkm hW hZ _ (lv_sub hl [2, 3, 4, 0, 5] rfl) hE
set_option maxRecDepth 20000 in
theorem ct_X15_seenBy (l : Launch) (X : Ec) (F : Nat) {h : Hp} {x0 : Nat} {x1 : Nat} {x2 : Int32} {o : Int64 × Hp} (k_x0 : hK h x0 = 15) (k_x1 : hK h x1 = 12) (hE : sX15_seenBy F h x0 x1 x2 = some o) : MetJ l yX15_seenBy cX15_seenBy 8 (some .long) 3 84 X [.ref x0, .ref x1, .int x2] h o := by
  refine x_met (by decide) (Nat.le_of_ble_eq_true rfl) ?_
  intro p e s m below meth c ls C hl hW hZ
  have hl : lv_has ls 8 [(0, .ref x0), (1, .ref x1), (2, .int x2)] := hl
  have hkm : Km h h := Km.rf h
  refine lv_lconst (v := (0 : Int64)) C.1 C.2.1 dX15_seenBy_0 (by decide) ?_
  refine lv_lstore_n (lv' := [(3, .long (0 : Int64)), (0, .ref x0), (1, .ref x1), (2, .int x2)]) C.1 C.2.1 dX15_seenBy_1 rfl hl (by decide) rfl (fun ls hl => ?_)
  refine lv_iconst (v := (0 : Int32)) C.1 C.2.1 dX15_seenBy_2 (by decide) ?_
  refine lv_istore (lv' := [(5, .int (0 : Int32)), (3, .long (0 : Int64)), (0, .ref x0), (1, .ref x1), (2, .int x2)]) C.1 C.2.1 dX15_seenBy_3 hl (by decide) rfl (fun ls hl => ?_)
  exact bX15_seenBy_5 C F k_x0 k_x1 hkm hW hZ _ (lv_sub hl [2, 3, 4, 1, 0] rfl) hE
