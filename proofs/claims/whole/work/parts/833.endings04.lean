set_option maxRecDepth 100000 in
theorem ms_99 : Cond.selects RX0 yX0_goBack yX0_goBack ∈ W0 := w0_in (List.mem_append_left _ (List.mem_of_getElem? (i := 99) rfl)) rfl
set_option maxRecDepth 100000 in
theorem m_1676 : Cond.methodLink RX0 115 yX0_goBack ∈ W0 := w0_in (List.mem_append_right _ (List.mem_of_getElem? (i := 1676) rfl)) rfl
set_option maxRecDepth 100000 in
theorem m_1678 : Cond.instanceMethod yX0_goBack ∈ W0 := w0_in (List.mem_append_right _ (List.mem_of_getElem? (i := 1678) rfl)) rfl
set_option maxRecDepth 100000 in
theorem m_1679 : Cond.code yX0_goBack cX0_goBack 9 none ∈ W0 := w0_in (List.mem_append_right _ (List.mem_of_getElem? (i := 1679) rfl)) rfl
theorem cw_X0_115 : cwd RX0 115 yX0_goBack cX0_goBack 9 none false 1 := ⟨m_1679, m_1676, m_13, ⟨m_1678, ms_99⟩, by decide, by decide, by decide +kernel⟩
theorem dX0_countAll_0 : decode cX0_countAll 0 = .ok (.iconst 0, 1) := by decide +kernel
theorem dX0_countAll_1 : decode cX0_countAll 1 = .ok (.istore_n 1, 1) := by decide +kernel
theorem dX0_countAll_2 : decode cX0_countAll 2 = .ok (.iload_n 1, 1) := by decide +kernel
theorem dX0_countAll_3 : decode cX0_countAll 3 = .ok (.aload_n 0, 1) := by decide +kernel
theorem dX0_countAll_4 : decode cX0_countAll 4 = .ok (.getfield 129, 3) := by decide +kernel
theorem dX0_countAll_7 : decode cX0_countAll 7 = .ok (.if_icmp .ge 143, 3) := by decide +kernel
theorem dX0_countAll_10 : decode cX0_countAll 10 = .ok (.aload_n 0, 1) := by decide +kernel
theorem dX0_countAll_11 : decode cX0_countAll 11 = .ok (.getfield 22, 3) := by decide +kernel
theorem dX0_countAll_14 : decode cX0_countAll 14 = .ok (.iload_n 1, 1) := by decide +kernel
theorem dX0_countAll_15 : decode cX0_countAll 15 = .ok (.iconst 1, 1) := by decide +kernel
theorem dX0_countAll_16 : decode cX0_countAll 16 = .ok (.iadd, 1) := by decide +kernel
theorem dX0_countAll_17 : decode cX0_countAll 17 = .ok (.iaload, 1) := by decide +kernel
theorem dX0_countAll_18 : decode cX0_countAll 18 = .ok (.aload_n 0, 1) := by decide +kernel
theorem dX0_countAll_19 : decode cX0_countAll 19 = .ok (.getfield 22, 3) := by decide +kernel
theorem dX0_countAll_22 : decode cX0_countAll 22 = .ok (.iload_n 1, 1) := by decide +kernel
theorem dX0_countAll_23 : decode cX0_countAll 23 = .ok (.iaload, 1) := by decide +kernel
theorem dX0_countAll_24 : decode cX0_countAll 24 = .ok (.isub, 1) := by decide +kernel
theorem dX0_countAll_25 : decode cX0_countAll 25 = .ok (.iconst 1, 1) := by decide +kernel
theorem dX0_countAll_26 : decode cX0_countAll 26 = .ok (.ishr, 1) := by decide +kernel
theorem dX0_countAll_27 : decode cX0_countAll 27 = .ok (.istore_n 2, 1) := by decide +kernel
theorem dX0_countAll_28 : decode cX0_countAll 28 = .ok (.iconst 0, 1) := by decide +kernel
theorem dX0_countAll_29 : decode cX0_countAll 29 = .ok (.istore_n 3, 1) := by decide +kernel
theorem dX0_countAll_30 : decode cX0_countAll 30 = .ok (.iload_n 3, 1) := by decide +kernel
theorem dX0_countAll_31 : decode cX0_countAll 31 = .ok (.iload_n 2, 1) := by decide +kernel
theorem dX0_countAll_32 : decode cX0_countAll 32 = .ok (.if_icmp .ge 112, 3) := by decide +kernel
theorem dX0_countAll_35 : decode cX0_countAll 35 = .ok (.aload_n 0, 1) := by decide +kernel
theorem dX0_countAll_36 : decode cX0_countAll 36 = .ok (.getfield 22, 3) := by decide +kernel
theorem dX0_countAll_39 : decode cX0_countAll 39 = .ok (.iload_n 1, 1) := by decide +kernel
theorem dX0_countAll_40 : decode cX0_countAll 40 = .ok (.iaload, 1) := by decide +kernel
theorem dX0_countAll_41 : decode cX0_countAll 41 = .ok (.iconst 2, 1) := by decide +kernel
theorem dX0_countAll_42 : decode cX0_countAll 42 = .ok (.iload_n 3, 1) := by decide +kernel
theorem dX0_countAll_43 : decode cX0_countAll 43 = .ok (.imul, 1) := by decide +kernel
theorem dX0_countAll_44 : decode cX0_countAll 44 = .ok (.iadd, 1) := by decide +kernel
theorem dX0_countAll_45 : decode cX0_countAll 45 = .ok (.istore 4, 2) := by decide +kernel
theorem dX0_countAll_47 : decode cX0_countAll 47 = .ok (.aload_n 0, 1) := by decide +kernel
theorem dX0_countAll_48 : decode cX0_countAll 48 = .ok (.getfield 31, 3) := by decide +kernel
theorem dX0_countAll_51 : decode cX0_countAll 51 = .ok (.iload 4, 2) := by decide +kernel
theorem dX0_countAll_53 : decode cX0_countAll 53 = .ok (.iaload, 1) := by decide +kernel
theorem dX0_countAll_54 : decode cX0_countAll 54 = .ok (.ldc 183, 2) := by decide +kernel
theorem dX0_countAll_56 : decode cX0_countAll 56 = .ok (.if_icmp .ne 17, 3) := by decide +kernel
theorem dX0_countAll_59 : decode cX0_countAll 59 = .ok (.aload_n 0, 1) := by decide +kernel
theorem dX0_countAll_60 : decode cX0_countAll 60 = .ok (.getfield 31, 3) := by decide +kernel
theorem dX0_countAll_63 : decode cX0_countAll 63 = .ok (.iload 4, 2) := by decide +kernel
theorem dX0_countAll_65 : decode cX0_countAll 65 = .ok (.iconst 1, 1) := by decide +kernel
theorem dX0_countAll_66 : decode cX0_countAll 66 = .ok (.iadd, 1) := by decide +kernel
theorem dX0_countAll_67 : decode cX0_countAll 67 = .ok (.iaload, 1) := by decide +kernel
theorem dX0_countAll_68 : decode cX0_countAll 68 = .ok (.ldc 183, 2) := by decide +kernel
theorem dX0_countAll_70 : decode cX0_countAll 70 = .ok (.if_icmp .eq 7, 3) := by decide +kernel
theorem dX0_countAll_73 : decode cX0_countAll 73 = .ok (.iconst 1, 1) := by decide +kernel
theorem dX0_countAll_74 : decode cX0_countAll 74 = .ok (.goto 4, 3) := by decide +kernel
theorem dX0_countAll_77 : decode cX0_countAll 77 = .ok (.iconst 0, 1) := by decide +kernel
theorem dX0_countAll_78 : decode cX0_countAll 78 = .ok (.istore 5, 2) := by decide +kernel
theorem dX0_countAll_80 : decode cX0_countAll 80 = .ok (.iload 5, 2) := by decide +kernel
theorem dX0_countAll_82 : decode cX0_countAll 82 = .ok (.ifCond .eq 56, 3) := by decide +kernel
theorem dX0_countAll_85 : decode cX0_countAll 85 = .ok (.aload_n 0, 1) := by decide +kernel
theorem dX0_countAll_86 : decode cX0_countAll 86 = .ok (.aload_n 0, 1) := by decide +kernel
theorem dX0_countAll_87 : decode cX0_countAll 87 = .ok (.getfield 18, 3) := by decide +kernel
theorem dX0_countAll_90 : decode cX0_countAll 90 = .ok (.iload_n 1, 1) := by decide +kernel
theorem dX0_countAll_91 : decode cX0_countAll 91 = .ok (.iaload, 1) := by decide +kernel
theorem dX0_countAll_92 : decode cX0_countAll 92 = .ok (.iload_n 3, 1) := by decide +kernel
theorem dX0_countAll_93 : decode cX0_countAll 93 = .ok (.invokevirtual 111, 3) := by decide +kernel
theorem dX0_countAll_96 : decode cX0_countAll 96 = .ok (.ifCond .ne 6, 3) := by decide +kernel
theorem dX0_countAll_99 : decode cX0_countAll 99 = .ok (.goto 39, 3) := by decide +kernel
theorem dX0_countAll_102 : decode cX0_countAll 102 = .ok (.iconst 0, 1) := by decide +kernel
theorem dX0_countAll_103 : decode cX0_countAll 103 = .ok (.istore 6, 2) := by decide +kernel
theorem dX0_countAll_105 : decode cX0_countAll 105 = .ok (.iload 6, 2) := by decide +kernel
theorem dX0_countAll_107 : decode cX0_countAll 107 = .ok (.iconst 2, 1) := by decide +kernel
theorem dX0_countAll_108 : decode cX0_countAll 108 = .ok (.if_icmp .ge 30, 3) := by decide +kernel
theorem dX0_countAll_111 : decode cX0_countAll 111 = .ok (.aload_n 0, 1) := by decide +kernel
theorem dX0_countAll_112 : decode cX0_countAll 112 = .ok (.getfield 31, 3) := by decide +kernel
theorem dX0_countAll_115 : decode cX0_countAll 115 = .ok (.iload 4, 2) := by decide +kernel
theorem dX0_countAll_117 : decode cX0_countAll 117 = .ok (.iload 6, 2) := by decide +kernel
theorem dX0_countAll_119 : decode cX0_countAll 119 = .ok (.iadd, 1) := by decide +kernel
theorem dX0_countAll_120 : decode cX0_countAll 120 = .ok (.iaload, 1) := by decide +kernel
theorem dX0_countAll_121 : decode cX0_countAll 121 = .ok (.ldc 183, 2) := by decide +kernel
theorem dX0_countAll_123 : decode cX0_countAll 123 = .ok (.if_icmp .eq 9, 3) := by decide +kernel
theorem dX0_countAll_126 : decode cX0_countAll 126 = .ok (.aload_n 0, 1) := by decide +kernel
theorem dX0_countAll_127 : decode cX0_countAll 127 = .ok (.iload 6, 2) := by decide +kernel
theorem dX0_countAll_129 : decode cX0_countAll 129 = .ok (.invokevirtual 115, 3) := by decide +kernel
theorem dX0_countAll_132 : decode cX0_countAll 132 = .ok (.iinc 6 1, 3) := by decide +kernel
theorem dX0_countAll_135 : decode cX0_countAll 135 = .ok (.goto (-30), 3) := by decide +kernel
theorem dX0_countAll_138 : decode cX0_countAll 138 = .ok (.iinc 3 1, 3) := by decide +kernel
theorem dX0_countAll_141 : decode cX0_countAll 141 = .ok (.goto (-111), 3) := by decide +kernel
theorem dX0_countAll_144 : decode cX0_countAll 144 = .ok (.iinc 1 1, 3) := by decide +kernel
theorem dX0_countAll_147 : decode cX0_countAll 147 = .ok (.goto (-145), 3) := by decide +kernel
theorem dX0_countAll_150 : decode cX0_countAll 150 = .ok (.return_, 1) := by decide +kernel
set_option maxRecDepth 20000 in
theorem moX0_countAll_138 {o : Hp} {k_2 : Hp → Nat → Int32 → Option (Hp)} {k_30 : Hp → Nat → Int32 → Int32 → Int32 → Option (Hp)} {F : Nat} (mk_2 : ∀ (h : Hp) (x0 : Nat) (x1 : Int32), k_2 h x0 x1 = some o → Le h o) (mk_30 : ∀ (h : Hp) (x0 : Nat) (x1 : Int32) (x2 : Int32) (x3 : Int32), k_30 h x0 x1 x2 x3 = some o → Le h o) {h : Hp} {x0 : Nat} {x1 : Int32} {x2 : Int32} {x3 : Int32} (hE : sX0_countAll_138 F k_2 k_30 h x0 x1 x2 x3 = some o) : Le h o := by
  obtain ⟨v_1, ev_1, hE⟩ := nm_e2 hE
  exact mk_30 _ _ _ _ _ hE
set_option maxRecDepth 20000 in
theorem moX0_countAll_132 {o : Hp} {k_2 : Hp → Nat → Int32 → Option (Hp)} {k_30 : Hp → Nat → Int32 → Int32 → Int32 → Option (Hp)} {k_105 : Hp → Nat → Int32 → Int32 → Int32 → Int32 → Int32 → Option (Hp)} {F : Nat} (mk_2 : ∀ (h : Hp) (x0 : Nat) (x1 : Int32), k_2 h x0 x1 = some o → Le h o) (mk_30 : ∀ (h : Hp) (x0 : Nat) (x1 : Int32) (x2 : Int32) (x3 : Int32), k_30 h x0 x1 x2 x3 = some o → Le h o) (mk_105 : ∀ (h : Hp) (x0 : Nat) (x1 : Int32) (x2 : Int32) (x3 : Int32) (x4 : Int32) (x6 : Int32), k_105 h x0 x1 x2 x3 x4 x6 = some o → Le h o) {h : Hp} {x0 : Nat} {x1 : Int32} {x2 : Int32} {x3 : Int32} {x4 : Int32} {x6 : Int32} (hE : sX0_countAll_132 F k_2 k_30 k_105 h x0 x1 x2 x3 x4 x6 = some o) : Le h o := by
  obtain ⟨v_1, ev_1, hE⟩ := nm_e2 hE
  exact mk_105 _ _ _ _ _ _ _ hE
set_option maxRecDepth 20000 in
theorem moX0_countAll_105 {o : Hp} {k_2 : Hp → Nat → Int32 → Option (Hp)} {k_30 : Hp → Nat → Int32 → Int32 → Int32 → Option (Hp)} {F : Nat} (mk_2 : ∀ (h : Hp) (x0 : Nat) (x1 : Int32), k_2 h x0 x1 = some o → Le h o) (mk_30 : ∀ (h : Hp) (x0 : Nat) (x1 : Int32) (x2 : Int32) (x3 : Int32), k_30 h x0 x1 x2 x3 = some o → Le h o) : ∀ (f : Nat) {h : Hp} {x0 : Nat} {x1 : Int32} {x2 : Int32} {x3 : Int32} {x4 : Int32} {x6 : Int32}, sX0_countAll_105 F k_2 k_30 f h x0 x1 x2 x3 x4 x6 = some o → Le h o := by
  intro f
  induction f with
  | zero =>
    intro h x0 x1 x2 x3 x4 x6 hE
    rw [sX0_countAll_105] at hE
    cases hE
  | succ f ih =>
    intro h x0 x1 x2 x3 x4 x6 hE
    rw [sX0_countAll_105] at hE
    have mk_105 : ∀ (h : Hp) (x0 : Nat) (x1 : Int32) (x2 : Int32) (x3 : Int32) (x4 : Int32) (x6 : Int32), sX0_countAll_105 F k_2 k_30 f h x0 x1 x2 x3 x4 x6 = some o → Le h o := fun h x0 x1 x2 x3 x4 x6 hE => ih hE
    rcases br_e hE with ⟨_, hE⟩ | ⟨_, hE⟩
    · exact moX0_countAll_138 mk_2 mk_30 hE
    · obtain ⟨r_2, er_2, hE⟩ := cl_e hE
      obtain ⟨g_3, hE⟩ := gd_e hE
      rcases br_e hE with ⟨_, hE⟩ | ⟨_, hE⟩
      · exact moX0_countAll_132 mk_2 mk_30 mk_105 hE
      · obtain ⟨o_5, eo_5, hE⟩ := cl_e hE
        refine (moX0_goBack eo_5).tr ?_
        exact moX0_countAll_132 mk_2 mk_30 mk_105 hE
set_option maxRecDepth 20000 in
theorem moX0_countAll_78 {o : Hp} {k_2 : Hp → Nat → Int32 → Option (Hp)} {k_30 : Hp → Nat → Int32 → Int32 → Int32 → Option (Hp)} {F : Nat} (mk_2 : ∀ (h : Hp) (x0 : Nat) (x1 : Int32), k_2 h x0 x1 = some o → Le h o) (mk_30 : ∀ (h : Hp) (x0 : Nat) (x1 : Int32) (x2 : Int32) (x3 : Int32), k_30 h x0 x1 x2 x3 = some o → Le h o) {h : Hp} {x0 : Nat} {x1 : Int32} {x2 : Int32} {x3 : Int32} {x4 : Int32} {t0 : Int32} (hE : sX0_countAll_78 F k_2 k_30 h x0 x1 x2 x3 x4 t0 = some o) : Le h o := by
  rcases br_e hE with ⟨_, hE⟩ | ⟨_, hE⟩
  · exact moX0_countAll_138 mk_2 mk_30 hE
  · obtain ⟨r_2, er_2, hE⟩ := cl_e hE
    obtain ⟨g_3, hE⟩ := gd_e hE
    obtain ⟨o_4, eo_4, hE⟩ := cl_e hE
    refine (moX0_layOut eo_4).tr ?_
    rcases br_e hE with ⟨_, hE⟩ | ⟨_, hE⟩
    · exact moX0_countAll_138 mk_2 mk_30 hE
    · exact moX0_countAll_105 mk_2 mk_30 _ hE
set_option maxRecDepth 20000 in
theorem moX0_countAll_73 {o : Hp} {k_2 : Hp → Nat → Int32 → Option (Hp)} {k_30 : Hp → Nat → Int32 → Int32 → Int32 → Option (Hp)} {F : Nat} (mk_2 : ∀ (h : Hp) (x0 : Nat) (x1 : Int32), k_2 h x0 x1 = some o → Le h o) (mk_30 : ∀ (h : Hp) (x0 : Nat) (x1 : Int32) (x2 : Int32) (x3 : Int32), k_30 h x0 x1 x2 x3 = some o → Le h o) {h : Hp} {x0 : Nat} {x1 : Int32} {x2 : Int32} {x3 : Int32} {x4 : Int32} (hE : sX0_countAll_73 F k_2 k_30 h x0 x1 x2 x3 x4 = some o) : Le h o := by
  exact moX0_countAll_78 mk_2 mk_30 hE
set_option maxRecDepth 20000 in
theorem moX0_countAll_30 {o : Hp} {k_2 : Hp → Nat → Int32 → Option (Hp)} {F : Nat} (mk_2 : ∀ (h : Hp) (x0 : Nat) (x1 : Int32), k_2 h x0 x1 = some o → Le h o) : ∀ (f : Nat) {h : Hp} {x0 : Nat} {x1 : Int32} {x2 : Int32} {x3 : Int32}, sX0_countAll_30 F k_2 f h x0 x1 x2 x3 = some o → Le h o := by
  intro f
  induction f with
  | zero =>
    intro h x0 x1 x2 x3 hE
    rw [sX0_countAll_30] at hE
    cases hE
  | succ f ih =>
    intro h x0 x1 x2 x3 hE
    rw [sX0_countAll_30] at hE
    have mk_30 : ∀ (h : Hp) (x0 : Nat) (x1 : Int32) (x2 : Int32) (x3 : Int32), sX0_countAll_30 F k_2 f h x0 x1 x2 x3 = some o → Le h o := fun h x0 x1 x2 x3 hE => ih hE
    rcases br_e hE with ⟨_, hE⟩ | ⟨_, hE⟩
    · obtain ⟨v_2, ev_2, hE⟩ := nm_e2 hE
      exact mk_2 _ _ _ hE
    · obtain ⟨r_3, er_3, hE⟩ := cl_e hE
      obtain ⟨g_4, hE⟩ := gd_e hE
      obtain ⟨v_5, ev_5, hE⟩ := nm_e2 hE
      obtain ⟨r_6, er_6, hE⟩ := cl_e hE
      obtain ⟨g_7, hE⟩ := gd_e hE
      rcases br_e hE with ⟨_, hE⟩ | ⟨_, hE⟩
      · obtain ⟨r_9, er_9, hE⟩ := cl_e hE
        obtain ⟨g_10, hE⟩ := gd_e hE
        rcases br_e hE with ⟨_, hE⟩ | ⟨_, hE⟩
        · exact moX0_countAll_78 mk_2 mk_30 hE
        · exact moX0_countAll_73 mk_2 mk_30 hE
      · exact moX0_countAll_73 mk_2 mk_30 hE
set_option maxRecDepth 20000 in
theorem moX0_countAll_2 {o : Hp} {F : Nat} : ∀ (f : Nat) {h : Hp} {x0 : Nat} {x1 : Int32}, sX0_countAll_2 F f h x0 x1 = some o → Le h o := by
  intro f
  induction f with
  | zero =>
    intro h x0 x1 hE
    rw [sX0_countAll_2] at hE
    cases hE
  | succ f ih =>
    intro h x0 x1 hE
    rw [sX0_countAll_2] at hE
    have mk_2 : ∀ (h : Hp) (x0 : Nat) (x1 : Int32), sX0_countAll_2 F f h x0 x1 = some o → Le h o := fun h x0 x1 hE => ih hE
    rcases br_e hE with ⟨_, hE⟩ | ⟨_, hE⟩
    · exact le_some1 hE
    · obtain ⟨r_2, er_2, hE⟩ := cl_e hE
      obtain ⟨g_3, hE⟩ := gd_e hE
      obtain ⟨r_4, er_4, hE⟩ := cl_e hE
      obtain ⟨g_5, hE⟩ := gd_e hE
      obtain ⟨v_6, ev_6, hE⟩ := nm_e2 hE
      exact moX0_countAll_30 mk_2 _ hE
set_option maxRecDepth 20000 in
theorem moX0_countAll {o : Hp} {F : Nat} {h : Hp} {x0 : Nat} (hE : sX0_countAll F h x0 = some o) : Le h o := by
  exact moX0_countAll_2 _ hE
set_option maxRecDepth 20000 in
theorem bX0_countAll_138 {p : Program} {l : Launch} {e : Env} {s : State} {m : MethodId} {args : Array Value} {below : List Frame} {meth : Method} {c : Code} {X : Ec} {h0 : Hp} {o : Hp} {k_2 : Hp → Nat → Int32 → Option (Hp)} {k_30 : Hp → Nat → Int32 → Int32 → Int32 → Option (Hp)} {F : Nat} (C : Cx X p s m args meth c RX0 cX0_countAll 7 none "countAll") (hk_2 : ∀ (h : Hp) (x0 : Nat) (x1 : Int32) (H : Heap) (locs : List Loc), hK h x0 = 0 → Km h0 h → Wx X h H → va_S (aA (eB X)) s.heap H locs → ∀ (ls : Array Slot), lv_has ls 7 [(0, .ref x0), (1, .int x1)] → k_2 h x0 x1 = some o → W p l e (rm 5 145) s m args below meth c H locs 0 0 (MQ below (QV X h0 o) args s 0 0 (aA (eB X))) (F0 m 2 ls [])) (hk_30 : ∀ (h : Hp) (x0 : Nat) (x1 : Int32) (x2 : Int32) (x3 : Int32) (H : Heap) (locs : List Loc), hK h x0 = 0 → Km h0 h → Wx X h H → va_S (aA (eB X)) s.heap H locs → ∀ (ls : Array Slot), lv_has ls 7 [(0, .ref x0), (1, .int x1), (2, .int x2), (3, .int x3)] → k_30 h x0 x1 x2 x3 = some o → W p l e (rm 5 145) s m args below meth c H locs 0 0 (MQ below (QV X h0 o) args s 0 0 (aA (eB X))) (F0 m 30 ls [])) {h : Hp} {x0 : Nat} {x1 : Int32} {x2 : Int32} {x3 : Int32} {H : Heap} {locs : List Loc} (k_x0 : hK h x0 = 0) (hkm : Km h0 h) (hW : Wx X h H) (hZ : va_S (aA (eB X)) s.heap H locs) (ls : Array Slot) (hl : lv_has ls 7 [(0, .ref x0), (1, .int x1), (2, .int x2), (3, .int x3)]) (hE : sX0_countAll_138 F k_2 k_30 h x0 x1 x2 x3 = some o) : W p l e (rm 5 145) s m args below meth c H locs 0 0 (MQ below (QV X h0 o) args s 0 0 (aA (eB X))) (F0 m 138 ls []) := by
  obtain ⟨v_1, ev_1, hE⟩ := nm_e2 hE
  refine lv_iinc (v := v_1) (lv' := [(3, .int v_1), (0, .ref x0), (1, .int x1), (2, .int x2)]) C.1 C.2.1 dX0_countAll_138 hl (k := 3) rfl (by rw [ev_1]; rfl) (by decide) rfl (fun ls hl => ?_)
  refine lv_goto (tgt := 30) C.1 C.2.1 dX0_countAll_141 (by decide) ?_
  exact hk_30 _ _ _ _ _ _ _ k_x0 hkm hW hZ _ (lv_sub hl [1, 2, 3, 0] rfl) hE
set_option maxRecDepth 20000 in
theorem bX0_countAll_132 {p : Program} {l : Launch} {e : Env} {s : State} {m : MethodId} {args : Array Value} {below : List Frame} {meth : Method} {c : Code} {X : Ec} {h0 : Hp} {o : Hp} {k_2 : Hp → Nat → Int32 → Option (Hp)} {k_30 : Hp → Nat → Int32 → Int32 → Int32 → Option (Hp)} {k_105 : Hp → Nat → Int32 → Int32 → Int32 → Int32 → Int32 → Option (Hp)} {F : Nat} (C : Cx X p s m args meth c RX0 cX0_countAll 7 none "countAll") (hk_2 : ∀ (h : Hp) (x0 : Nat) (x1 : Int32) (H : Heap) (locs : List Loc), hK h x0 = 0 → Km h0 h → Wx X h H → va_S (aA (eB X)) s.heap H locs → ∀ (ls : Array Slot), lv_has ls 7 [(0, .ref x0), (1, .int x1)] → k_2 h x0 x1 = some o → W p l e (rm 5 145) s m args below meth c H locs 0 0 (MQ below (QV X h0 o) args s 0 0 (aA (eB X))) (F0 m 2 ls [])) (hk_30 : ∀ (h : Hp) (x0 : Nat) (x1 : Int32) (x2 : Int32) (x3 : Int32) (H : Heap) (locs : List Loc), hK h x0 = 0 → Km h0 h → Wx X h H → va_S (aA (eB X)) s.heap H locs → ∀ (ls : Array Slot), lv_has ls 7 [(0, .ref x0), (1, .int x1), (2, .int x2), (3, .int x3)] → k_30 h x0 x1 x2 x3 = some o → W p l e (rm 5 145) s m args below meth c H locs 0 0 (MQ below (QV X h0 o) args s 0 0 (aA (eB X))) (F0 m 30 ls [])) (hk_105 : ∀ (h : Hp) (x0 : Nat) (x1 : Int32) (x2 : Int32) (x3 : Int32) (x4 : Int32) (x6 : Int32) (H : Heap) (locs : List Loc), hK h x0 = 0 → Km h0 h → Wx X h H → va_S (aA (eB X)) s.heap H locs → ∀ (ls : Array Slot), lv_has ls 7 [(0, .ref x0), (1, .int x1), (2, .int x2), (3, .int x3), (4, .int x4), (6, .int x6)] → k_105 h x0 x1 x2 x3 x4 x6 = some o → W p l e (rm 5 145) s m args below meth c H locs 0 0 (MQ below (QV X h0 o) args s 0 0 (aA (eB X))) (F0 m 105 ls [])) {h : Hp} {x0 : Nat} {x1 : Int32} {x2 : Int32} {x3 : Int32} {x4 : Int32} {x6 : Int32} {H : Heap} {locs : List Loc} (k_x0 : hK h x0 = 0) (hkm : Km h0 h) (hW : Wx X h H) (hZ : va_S (aA (eB X)) s.heap H locs) (ls : Array Slot) (hl : lv_has ls 7 [(0, .ref x0), (1, .int x1), (2, .int x2), (3, .int x3), (4, .int x4), (6, .int x6)]) (hE : sX0_countAll_132 F k_2 k_30 k_105 h x0 x1 x2 x3 x4 x6 = some o) : W p l e (rm 5 145) s m args below meth c H locs 0 0 (MQ below (QV X h0 o) args s 0 0 (aA (eB X))) (F0 m 132 ls []) := by
  obtain ⟨v_1, ev_1, hE⟩ := nm_e2 hE
  refine lv_iinc (v := v_1) (lv' := [(6, .int v_1), (0, .ref x0), (1, .int x1), (2, .int x2), (3, .int x3), (4, .int x4)]) C.1 C.2.1 dX0_countAll_132 hl (k := 5) rfl (by rw [ev_1]; rfl) (by decide) rfl (fun ls hl => ?_)
  refine lv_goto (tgt := 105) C.1 C.2.1 dX0_countAll_135 (by decide) ?_
  exact hk_105 _ _ _ _ _ _ _ _ _ k_x0 hkm hW hZ _ (lv_sub hl [1, 2, 3, 4, 5, 0] rfl) hE
set_option maxRecDepth 20000 in
theorem bX0_countAll_105 {p : Program} {l : Launch} {e : Env} {s : State} {m : MethodId} {args : Array Value} {below : List Frame} {meth : Method} {c : Code} {X : Ec} {h0 : Hp} {o : Hp} {k_2 : Hp → Nat → Int32 → Option (Hp)} {k_30 : Hp → Nat → Int32 → Int32 → Int32 → Option (Hp)} {F : Nat} (C : Cx X p s m args meth c RX0 cX0_countAll 7 none "countAll") (hk_2 : ∀ (h : Hp) (x0 : Nat) (x1 : Int32) (H : Heap) (locs : List Loc), hK h x0 = 0 → Km h0 h → Wx X h H → va_S (aA (eB X)) s.heap H locs → ∀ (ls : Array Slot), lv_has ls 7 [(0, .ref x0), (1, .int x1)] → k_2 h x0 x1 = some o → W p l e (rm 5 145) s m args below meth c H locs 0 0 (MQ below (QV X h0 o) args s 0 0 (aA (eB X))) (F0 m 2 ls [])) (hk_30 : ∀ (h : Hp) (x0 : Nat) (x1 : Int32) (x2 : Int32) (x3 : Int32) (H : Heap) (locs : List Loc), hK h x0 = 0 → Km h0 h → Wx X h H → va_S (aA (eB X)) s.heap H locs → ∀ (ls : Array Slot), lv_has ls 7 [(0, .ref x0), (1, .int x1), (2, .int x2), (3, .int x3)] → k_30 h x0 x1 x2 x3 = some o → W p l e (rm 5 145) s m args below meth c H locs 0 0 (MQ below (QV X h0 o) args s 0 0 (aA (eB X))) (F0 m 30 ls [])) : ∀ (f : Nat) {h : Hp} {x0 : Nat} {x1 : Int32} {x2 : Int32} {x3 : Int32} {x4 : Int32} {x6 : Int32} {H : Heap} {locs : List Loc} (k_x0 : hK h x0 = 0), Km h0 h → Wx X h H → va_S (aA (eB X)) s.heap H locs → ∀ (ls : Array Slot), lv_has ls 7 [(0, .ref x0), (1, .int x1), (2, .int x2), (3, .int x3), (4, .int x4), (6, .int x6)] → sX0_countAll_105 F k_2 k_30 f h x0 x1 x2 x3 x4 x6 = some o → W p l e (rm 5 145) s m args below meth c H locs 0 0 (MQ below (QV X h0 o) args s 0 0 (aA (eB X))) (F0 m 105 ls []) := by
  intro f
  induction f with
  | zero =>
    intro h x0 x1 x2 x3 x4 x6 H locs k_x0 hkm hW hZ ls hl hE
    rw [sX0_countAll_105] at hE
    cases hE
  | succ f ih =>
    intro h x0 x1 x2 x3 x4 x6 H locs k_x0 hkm hW hZ ls hl hE
    rw [sX0_countAll_105] at hE
    have hk_105 : ∀ (h : Hp) (x0 : Nat) (x1 : Int32) (x2 : Int32) (x3 : Int32) (x4 : Int32) (x6 : Int32) (H : Heap) (locs : List Loc), hK h x0 = 0 → Km h0 h → Wx X h H → va_S (aA (eB X)) s.heap H locs → ∀ (ls : Array Slot), lv_has ls 7 [(0, .ref x0), (1, .int x1), (2, .int x2), (3, .int x3), (4, .int x4), (6, .int x6)] → sX0_countAll_105 F k_2 k_30 f h x0 x1 x2 x3 x4 x6 = some o → W p l e (rm 5 145) s m args below meth c H locs 0 0 (MQ below (QV X h0 o) args s 0 0 (aA (eB X))) (F0 m 105 ls []) := fun h x0 x1 x2 x3 x4 x6 H locs k_x0 a b c ls hl hE => ih k_x0 a b c ls hl hE
    refine lv_iload C.1 C.2.1 dX0_countAll_105 (lv_at hl 5 rfl) ?_
    refine lv_iconst (v := (2 : Int32)) C.1 C.2.1 dX0_countAll_107 (by decide) ?_
    refine lv_icmp_ge (tgt := 138) C.1 C.2.1 dX0_countAll_108 (by decide) (fun c_1 => ?_) (fun c_1 => ?_)
    · have hE := br_p hE c_1
      exact bX0_countAll_138 C hk_2 hk_30 k_x0 hkm hW hZ _ (lv_sub hl [0, 1, 2, 3] rfl) hE
    · have hE := br_n hE c_1
      refine lv_aload_n C.1 C.2.1 dX0_countAll_111 rfl (lv_at hl 0 rfl) ?_
      obtain ⟨r_2, er_2, hE⟩ := cl_e hE
      refine gf_X0_31 C hW k_x0 er_2 dX0_countAll_112 (fun k_r_2 => ?_)
      refine lv_iload C.1 C.2.1 dX0_countAll_115 (lv_at hl 4 rfl) ?_
      refine lv_iload C.1 C.2.1 dX0_countAll_117 (lv_at hl 5 rfl) ?_
      refine lv_iadd C.1 C.2.1 dX0_countAll_119 ?_
      obtain ⟨g_3, hE⟩ := gd_e hE
      refine y_iald C hW k_r_2 g_3 dX0_countAll_120 ?_
      refine lv_ldc (v := (4000000 : Int32)) C.1 C.2.1 C.2.2.2.1 (C.2.2.2.2.1 _ m_1662) dX0_countAll_121 ?_
      refine lv_icmp_eq (tgt := 132) C.1 C.2.1 dX0_countAll_123 (by decide) (fun c_4 => ?_) (fun c_4 => ?_)
      · have hE := br_p hE c_4
        exact bX0_countAll_132 C hk_2 hk_30 hk_105 k_x0 hkm hW hZ _ (lv_sub hl [0, 1, 2, 3, 4, 5] rfl) hE
      · have hE := br_n hE c_4
        refine lv_aload_n C.1 C.2.1 dX0_countAll_126 rfl (lv_at hl 0 rfl) ?_
        refine lv_iload C.1 C.2.1 dX0_countAll_127 (lv_at hl 5 rfl) ?_
        obtain ⟨o_5, eo_5, hE⟩ := cl_e hE
        refine x_kV (o := o_5) (z_runV (As := [.int x6]) (rest := []) C (ct_X0_goBack l X F k_x0 eo_5) cw_X0_115 hW hZ k_x0 (by decide) rfl rfl rfl hl.1 (Nat.le_of_ble_eq_true rfl) rfl dX0_countAll_129 ⟨Nat.le_of_ble_eq_true rfl, Nat.le_of_ble_eq_true rfl⟩ ⟨Nat.le_refl _, Nat.le_refl _⟩) hZ (fun _ _ hW km hZ => ?_)
        replace hkm := hkm.tr km
        replace k_x0 := km.at k_x0 (by decide)
        exact bX0_countAll_132 C hk_2 hk_30 hk_105 k_x0 hkm hW hZ _ (lv_sub hl [0, 1, 2, 3, 4, 5] rfl) hE
set_option maxRecDepth 20000 in
theorem bX0_countAll_78 {p : Program} {l : Launch} {e : Env} {s : State} {m : MethodId} {args : Array Value} {below : List Frame} {meth : Method} {c : Code} {X : Ec} {h0 : Hp} {o : Hp} {k_2 : Hp → Nat → Int32 → Option (Hp)} {k_30 : Hp → Nat → Int32 → Int32 → Int32 → Option (Hp)} {F : Nat} (C : Cx X p s m args meth c RX0 cX0_countAll 7 none "countAll") (hk_2 : ∀ (h : Hp) (x0 : Nat) (x1 : Int32) (H : Heap) (locs : List Loc), hK h x0 = 0 → Km h0 h → Wx X h H → va_S (aA (eB X)) s.heap H locs → ∀ (ls : Array Slot), lv_has ls 7 [(0, .ref x0), (1, .int x1)] → k_2 h x0 x1 = some o → W p l e (rm 5 145) s m args below meth c H locs 0 0 (MQ below (QV X h0 o) args s 0 0 (aA (eB X))) (F0 m 2 ls [])) (hk_30 : ∀ (h : Hp) (x0 : Nat) (x1 : Int32) (x2 : Int32) (x3 : Int32) (H : Heap) (locs : List Loc), hK h x0 = 0 → Km h0 h → Wx X h H → va_S (aA (eB X)) s.heap H locs → ∀ (ls : Array Slot), lv_has ls 7 [(0, .ref x0), (1, .int x1), (2, .int x2), (3, .int x3)] → k_30 h x0 x1 x2 x3 = some o → W p l e (rm 5 145) s m args below meth c H locs 0 0 (MQ below (QV X h0 o) args s 0 0 (aA (eB X))) (F0 m 30 ls [])) {h : Hp} {x0 : Nat} {x1 : Int32} {x2 : Int32} {x3 : Int32} {x4 : Int32} {t0 : Int32} {H : Heap} {locs : List Loc} (k_x0 : hK h x0 = 0) (hkm : Km h0 h) (hW : Wx X h H) (hZ : va_S (aA (eB X)) s.heap H locs) (ls : Array Slot) (hl : lv_has ls 7 [(0, .ref x0), (1, .int x1), (2, .int x2), (3, .int x3), (4, .int x4)]) (hE : sX0_countAll_78 F k_2 k_30 h x0 x1 x2 x3 x4 t0 = some o) : W p l e (rm 5 145) s m args below meth c H locs 0 0 (MQ below (QV X h0 o) args s 0 0 (aA (eB X))) (F0 m 78 ls [.int t0]) := by
  refine lv_istore (lv' := [(5, .int t0), (0, .ref x0), (1, .int x1), (2, .int x2), (3, .int x3), (4, .int x4)]) C.1 C.2.1 dX0_countAll_78 hl (by decide) rfl (fun ls hl => ?_)
  refine lv_iload C.1 C.2.1 dX0_countAll_80 (lv_at hl 0 rfl) ?_
  refine lv_if_eq (tgt := 138) C.1 C.2.1 dX0_countAll_82 (by decide) (fun c_1 => ?_) (fun c_1 => ?_)
  · have hE := br_p hE c_1
    exact bX0_countAll_138 C hk_2 hk_30 k_x0 hkm hW hZ _ (lv_sub hl [1, 2, 3, 4] rfl) hE
  · have hE := br_n hE c_1
    refine lv_aload_n C.1 C.2.1 dX0_countAll_85 rfl (lv_at hl 1 rfl) ?_
    refine lv_aload_n C.1 C.2.1 dX0_countAll_86 rfl (lv_at hl 1 rfl) ?_
    obtain ⟨r_2, er_2, hE⟩ := cl_e hE
    refine gf_X0_18 C hW k_x0 er_2 dX0_countAll_87 (fun k_r_2 => ?_)
    refine lv_iload_n C.1 C.2.1 dX0_countAll_90 rfl (lv_at hl 2 rfl) ?_
    obtain ⟨g_3, hE⟩ := gd_e hE
    refine y_iald C hW k_r_2 g_3 dX0_countAll_91 ?_
    refine lv_iload_n C.1 C.2.1 dX0_countAll_92 rfl (lv_at hl 4 rfl) ?_
    obtain ⟨o_4, eo_4, hE⟩ := cl_e hE
    refine x_kI (o := o_4) (z_runV (As := [.int (hI h r_2 x1.toNatClampNeg), .int x3]) (rest := []) C (ct_X0_layOut l X F k_x0 eo_4) cw_X0_111 hW hZ k_x0 (by decide) rfl rfl rfl hl.1 (Nat.le_of_ble_eq_true rfl) rfl dX0_countAll_93 ⟨Nat.le_of_ble_eq_true rfl, Nat.le_of_ble_eq_true rfl⟩ ⟨Nat.le_refl _, Nat.le_refl _⟩) hZ (fun _ _ hW km hZ => ?_)
    replace hkm := hkm.tr km
    replace k_x0 := km.at k_x0 (by decide)
    refine lv_if_ne (tgt := 102) C.1 C.2.1 dX0_countAll_96 (by decide) (fun c_5 => ?_) (fun c_5 => ?_)
    · have hE := br_n hE c_5
      refine lv_iconst (v := (0 : Int32)) C.1 C.2.1 dX0_countAll_102 (by decide) ?_
      refine lv_istore (lv' := [(6, .int (0 : Int32)), (5, .int t0), (0, .ref x0), (1, .int x1), (2, .int x2), (3, .int x3), (4, .int x4)]) C.1 C.2.1 dX0_countAll_103 hl (by decide) rfl (fun ls hl => ?_)
      exact bX0_countAll_105 C hk_2 hk_30 F k_x0 hkm hW hZ _ (lv_sub hl [2, 3, 4, 5, 6, 0] rfl) hE
    · have hE := br_p hE c_5
      refine lv_goto (tgt := 138) C.1 C.2.1 dX0_countAll_99 (by decide) ?_
      exact bX0_countAll_138 C hk_2 hk_30 k_x0 hkm hW hZ _ (lv_sub hl [1, 2, 3, 4] rfl) hE
set_option maxRecDepth 20000 in
theorem bX0_countAll_73 {p : Program} {l : Launch} {e : Env} {s : State} {m : MethodId} {args : Array Value} {below : List Frame} {meth : Method} {c : Code} {X : Ec} {h0 : Hp} {o : Hp} {k_2 : Hp → Nat → Int32 → Option (Hp)} {k_30 : Hp → Nat → Int32 → Int32 → Int32 → Option (Hp)} {F : Nat} (C : Cx X p s m args meth c RX0 cX0_countAll 7 none "countAll") (hk_2 : ∀ (h : Hp) (x0 : Nat) (x1 : Int32) (H : Heap) (locs : List Loc), hK h x0 = 0 → Km h0 h → Wx X h H → va_S (aA (eB X)) s.heap H locs → ∀ (ls : Array Slot), lv_has ls 7 [(0, .ref x0), (1, .int x1)] → k_2 h x0 x1 = some o → W p l e (rm 5 145) s m args below meth c H locs 0 0 (MQ below (QV X h0 o) args s 0 0 (aA (eB X))) (F0 m 2 ls [])) (hk_30 : ∀ (h : Hp) (x0 : Nat) (x1 : Int32) (x2 : Int32) (x3 : Int32) (H : Heap) (locs : List Loc), hK h x0 = 0 → Km h0 h → Wx X h H → va_S (aA (eB X)) s.heap H locs → ∀ (ls : Array Slot), lv_has ls 7 [(0, .ref x0), (1, .int x1), (2, .int x2), (3, .int x3)] → k_30 h x0 x1 x2 x3 = some o → W p l e (rm 5 145) s m args below meth c H locs 0 0 (MQ below (QV X h0 o) args s 0 0 (aA (eB X))) (F0 m 30 ls [])) {h : Hp} {x0 : Nat} {x1 : Int32} {x2 : Int32} {x3 : Int32} {x4 : Int32} {H : Heap} {locs : List Loc} (k_x0 : hK h x0 = 0) (hkm : Km h0 h) (hW : Wx X h H) (hZ : va_S (aA (eB X)) s.heap H locs) (ls : Array Slot) (hl : lv_has ls 7 [(0, .ref x0), (1, .int x1), (2, .int x2), (3, .int x3), (4, .int x4)]) (hE : sX0_countAll_73 F k_2 k_30 h x0 x1 x2 x3 x4 = some o) : W p l e (rm 5 145) s m args below meth c H locs 0 0 (MQ below (QV X h0 o) args s 0 0 (aA (eB X))) (F0 m 73 ls []) := by
  refine lv_iconst (v := (1 : Int32)) C.1 C.2.1 dX0_countAll_73 (by decide) ?_
  refine lv_goto (tgt := 78) C.1 C.2.1 dX0_countAll_74 (by decide) ?_
  exact bX0_countAll_78 C hk_2 hk_30 k_x0 hkm hW hZ _ (lv_sub hl [0, 1, 2, 3, 4] rfl) hE
set_option maxRecDepth 20000 in
theorem bX0_countAll_30 {p : Program} {l : Launch} {e : Env} {s : State} {m : MethodId} {args : Array Value} {below : List Frame} {meth : Method} {c : Code} {X : Ec} {h0 : Hp} {o : Hp} {k_2 : Hp → Nat → Int32 → Option (Hp)} {F : Nat} (C : Cx X p s m args meth c RX0 cX0_countAll 7 none "countAll") (hk_2 : ∀ (h : Hp) (x0 : Nat) (x1 : Int32) (H : Heap) (locs : List Loc), hK h x0 = 0 → Km h0 h → Wx X h H → va_S (aA (eB X)) s.heap H locs → ∀ (ls : Array Slot), lv_has ls 7 [(0, .ref x0), (1, .int x1)] → k_2 h x0 x1 = some o → W p l e (rm 5 145) s m args below meth c H locs 0 0 (MQ below (QV X h0 o) args s 0 0 (aA (eB X))) (F0 m 2 ls [])) : ∀ (f : Nat) {h : Hp} {x0 : Nat} {x1 : Int32} {x2 : Int32} {x3 : Int32} {H : Heap} {locs : List Loc} (k_x0 : hK h x0 = 0), Km h0 h → Wx X h H → va_S (aA (eB X)) s.heap H locs → ∀ (ls : Array Slot), lv_has ls 7 [(0, .ref x0), (1, .int x1), (2, .int x2), (3, .int x3)] → sX0_countAll_30 F k_2 f h x0 x1 x2 x3 = some o → W p l e (rm 5 145) s m args below meth c H locs 0 0 (MQ below (QV X h0 o) args s 0 0 (aA (eB X))) (F0 m 30 ls []) := by
  intro f
  induction f with
  | zero =>
    intro h x0 x1 x2 x3 H locs k_x0 hkm hW hZ ls hl hE
    rw [sX0_countAll_30] at hE
    cases hE
  | succ f ih =>
    intro h x0 x1 x2 x3 H locs k_x0 hkm hW hZ ls hl hE
    rw [sX0_countAll_30] at hE
    have hk_30 : ∀ (h : Hp) (x0 : Nat) (x1 : Int32) (x2 : Int32) (x3 : Int32) (H : Heap) (locs : List Loc), hK h x0 = 0 → Km h0 h → Wx X h H → va_S (aA (eB X)) s.heap H locs → ∀ (ls : Array Slot), lv_has ls 7 [(0, .ref x0), (1, .int x1), (2, .int x2), (3, .int x3)] → sX0_countAll_30 F k_2 f h x0 x1 x2 x3 = some o → W p l e (rm 5 145) s m args below meth c H locs 0 0 (MQ below (QV X h0 o) args s 0 0 (aA (eB X))) (F0 m 30 ls []) := fun h x0 x1 x2 x3 H locs k_x0 a b c ls hl hE => ih k_x0 a b c ls hl hE
    refine lv_iload_n C.1 C.2.1 dX0_countAll_30 rfl (lv_at hl 3 rfl) ?_
    refine lv_iload_n C.1 C.2.1 dX0_countAll_31 rfl (lv_at hl 2 rfl) ?_
    refine lv_icmp_ge (tgt := 144) C.1 C.2.1 dX0_countAll_32 (by decide) (fun c_1 => ?_) (fun c_1 => ?_)
    · have hE := br_p hE c_1
      obtain ⟨v_2, ev_2, hE⟩ := nm_e2 hE
      refine lv_iinc (v := v_2) (lv' := [(1, .int v_2), (0, .ref x0), (2, .int x2), (3, .int x3)]) C.1 C.2.1 dX0_countAll_144 hl (k := 1) rfl (by rw [ev_2]; rfl) (by decide) rfl (fun ls hl => ?_)
      refine lv_goto (tgt := 2) C.1 C.2.1 dX0_countAll_147 (by decide) ?_
      exact hk_2 _ _ _ _ _ k_x0 hkm hW hZ _ (lv_sub hl [1, 0] rfl) hE
    · have hE := br_n hE c_1
      refine lv_aload_n C.1 C.2.1 dX0_countAll_35 rfl (lv_at hl 0 rfl) ?_
      obtain ⟨r_3, er_3, hE⟩ := cl_e hE
      refine gf_X0_22 C hW k_x0 er_3 dX0_countAll_36 (fun k_r_3 => ?_)
      refine lv_iload_n C.1 C.2.1 dX0_countAll_39 rfl (lv_at hl 1 rfl) ?_
      obtain ⟨g_4, hE⟩ := gd_e hE
      refine y_iald C hW k_r_3 g_4 dX0_countAll_40 ?_
      refine lv_iconst (v := (2 : Int32)) C.1 C.2.1 dX0_countAll_41 (by decide) ?_
      refine lv_iload_n C.1 C.2.1 dX0_countAll_42 rfl (lv_at hl 3 rfl) ?_
      refine lv_imul C.1 C.2.1 dX0_countAll_43 ?_
      refine lv_iadd C.1 C.2.1 dX0_countAll_44 ?_
      obtain ⟨v_5, ev_5, hE⟩ := nm_e2 hE
      refine x_nmI ev_5 ?_
      refine lv_istore (lv' := [(4, .int v_5), (0, .ref x0), (1, .int x1), (2, .int x2), (3, .int x3)]) C.1 C.2.1 dX0_countAll_45 hl (by decide) rfl (fun ls hl => ?_)
      refine lv_aload_n C.1 C.2.1 dX0_countAll_47 rfl (lv_at hl 1 rfl) ?_
      obtain ⟨r_6, er_6, hE⟩ := cl_e hE
      refine gf_X0_31 C hW k_x0 er_6 dX0_countAll_48 (fun k_r_6 => ?_)
      refine lv_iload C.1 C.2.1 dX0_countAll_51 (lv_at hl 0 rfl) ?_
      obtain ⟨g_7, hE⟩ := gd_e hE
      refine y_iald C hW k_r_6 g_7 dX0_countAll_53 ?_
      refine lv_ldc (v := (4000000 : Int32)) C.1 C.2.1 C.2.2.2.1 (C.2.2.2.2.1 _ m_1662) dX0_countAll_54 ?_
      refine lv_icmp_ne (tgt := 73) C.1 C.2.1 dX0_countAll_56 (by decide) (fun c_8 => ?_) (fun c_8 => ?_)
      · have hE := br_n hE c_8
        exact bX0_countAll_73 C hk_2 hk_30 k_x0 hkm hW hZ _ (lv_sub hl [1, 2, 3, 4, 0] rfl) hE
      · have hE := br_p hE c_8
        refine lv_aload_n C.1 C.2.1 dX0_countAll_59 rfl (lv_at hl 1 rfl) ?_
        obtain ⟨r_9, er_9, hE⟩ := cl_e hE
        refine gf_X0_31 C hW k_x0 er_9 dX0_countAll_60 (fun k_r_9 => ?_)
        refine lv_iload C.1 C.2.1 dX0_countAll_63 (lv_at hl 0 rfl) ?_
        refine lv_iconst (v := (1 : Int32)) C.1 C.2.1 dX0_countAll_65 (by decide) ?_
        refine lv_iadd C.1 C.2.1 dX0_countAll_66 ?_
        obtain ⟨g_10, hE⟩ := gd_e hE
        refine y_iald C hW k_r_9 g_10 dX0_countAll_67 ?_
        refine lv_ldc (v := (4000000 : Int32)) C.1 C.2.1 C.2.2.2.1 (C.2.2.2.2.1 _ m_1662) dX0_countAll_68 ?_
        refine lv_icmp_eq (tgt := 77) C.1 C.2.1 dX0_countAll_70 (by decide) (fun c_11 => ?_) (fun c_11 => ?_)
        · have hE := br_p hE c_11
          refine lv_iconst (v := (0 : Int32)) C.1 C.2.1 dX0_countAll_77 (by decide) ?_
          exact bX0_countAll_78 C hk_2 hk_30 k_x0 hkm hW hZ _ (lv_sub hl [1, 2, 3, 4, 0] rfl) hE
        · have hE := br_n hE c_11
          exact bX0_countAll_73 C hk_2 hk_30 k_x0 hkm hW hZ _ (lv_sub hl [1, 2, 3, 4, 0] rfl) hE
set_option maxRecDepth 20000 in
theorem bX0_countAll_2 {p : Program} {l : Launch} {e : Env} {s : State} {m : MethodId} {args : Array Value} {below : List Frame} {meth : Method} {c : Code} {X : Ec} {h0 : Hp} {o : Hp} {F : Nat} (C : Cx X p s m args meth c RX0 cX0_countAll 7 none "countAll") : ∀ (f : Nat) {h : Hp} {x0 : Nat} {x1 : Int32} {H : Heap} {locs : List Loc} (k_x0 : hK h x0 = 0), Km h0 h → Wx X h H → va_S (aA (eB X)) s.heap H locs → ∀ (ls : Array Slot), lv_has ls 7 [(0, .ref x0), (1, .int x1)] → sX0_countAll_2 F f h x0 x1 = some o → W p l e (rm 5 145) s m args below meth c H locs 0 0 (MQ below (QV X h0 o) args s 0 0 (aA (eB X))) (F0 m 2 ls []) := by
  intro f
  induction f with
  | zero =>
    intro h x0 x1 H locs k_x0 hkm hW hZ ls hl hE
    rw [sX0_countAll_2] at hE
    cases hE
  | succ f ih =>
    intro h x0 x1 H locs k_x0 hkm hW hZ ls hl hE
    rw [sX0_countAll_2] at hE
    have hk_2 : ∀ (h : Hp) (x0 : Nat) (x1 : Int32) (H : Heap) (locs : List Loc), hK h x0 = 0 → Km h0 h → Wx X h H → va_S (aA (eB X)) s.heap H locs → ∀ (ls : Array Slot), lv_has ls 7 [(0, .ref x0), (1, .int x1)] → sX0_countAll_2 F f h x0 x1 = some o → W p l e (rm 5 145) s m args below meth c H locs 0 0 (MQ below (QV X h0 o) args s 0 0 (aA (eB X))) (F0 m 2 ls []) := fun h x0 x1 H locs k_x0 a b c ls hl hE => ih k_x0 a b c ls hl hE
    refine lv_iload_n C.1 C.2.1 dX0_countAll_2 rfl (lv_at hl 1 rfl) ?_
    refine lv_aload_n C.1 C.2.1 dX0_countAll_3 rfl (lv_at hl 0 rfl) ?_
    refine gf_X0_129 C hW k_x0 dX0_countAll_4 ?_
    refine lv_icmp_ge (tgt := 150) C.1 C.2.1 dX0_countAll_7 (by decide) (fun c_1 => ?_) (fun c_1 => ?_)
    · have hE := br_p hE c_1
      exact x_vret C rfl hW hZ hkm hE dX0_countAll_150
    · have hE := br_n hE c_1
      refine lv_aload_n C.1 C.2.1 dX0_countAll_10 rfl (lv_at hl 0 rfl) ?_
      obtain ⟨r_2, er_2, hE⟩ := cl_e hE
      refine gf_X0_22 C hW k_x0 er_2 dX0_countAll_11 (fun k_r_2 => ?_)
      refine lv_iload_n C.1 C.2.1 dX0_countAll_14 rfl (lv_at hl 1 rfl) ?_
      refine lv_iconst (v := (1 : Int32)) C.1 C.2.1 dX0_countAll_15 (by decide) ?_
      refine lv_iadd C.1 C.2.1 dX0_countAll_16 ?_
      obtain ⟨g_3, hE⟩ := gd_e hE
      refine y_iald C hW k_r_2 g_3 dX0_countAll_17 ?_
      refine lv_aload_n C.1 C.2.1 dX0_countAll_18 rfl (lv_at hl 0 rfl) ?_
      obtain ⟨r_4, er_4, hE⟩ := cl_e hE
      refine gf_X0_22 C hW k_x0 er_4 dX0_countAll_19 (fun k_r_4 => ?_)
      refine lv_iload_n C.1 C.2.1 dX0_countAll_22 rfl (lv_at hl 1 rfl) ?_
      obtain ⟨g_5, hE⟩ := gd_e hE
      refine y_iald C hW k_r_4 g_5 dX0_countAll_23 ?_
      refine lv_isub C.1 C.2.1 dX0_countAll_24 ?_
      refine lv_iconst (v := (1 : Int32)) C.1 C.2.1 dX0_countAll_25 (by decide) ?_
      refine lv_ishr C.1 C.2.1 dX0_countAll_26 ?_
      obtain ⟨v_6, ev_6, hE⟩ := nm_e2 hE
      refine x_nmI ev_6 ?_
      refine lv_istore_n (lv' := [(2, .int v_6), (0, .ref x0), (1, .int x1)]) C.1 C.2.1 dX0_countAll_27 rfl hl (by decide) rfl (fun ls hl => ?_)
      refine lv_iconst (v := (0 : Int32)) C.1 C.2.1 dX0_countAll_28 (by decide) ?_
      refine lv_istore_n (lv' := [(3, .int (0 : Int32)), (2, .int v_6), (0, .ref x0), (1, .int x1)]) C.1 C.2.1 dX0_countAll_29 rfl hl (by decide) rfl (fun ls hl => ?_)
      exact bX0_countAll_30 C hk_2 F k_x0 hkm hW hZ _ (lv_sub hl [2, 3, 1, 0] rfl) hE
set_option maxRecDepth 20000 in
theorem ct_X0_countAll (l : Launch) (X : Ec) (F : Nat) {h : Hp} {x0 : Nat} {o : Hp} (k_x0 : hK h x0 = 0) (hE : sX0_countAll F h x0 = some o) : MetV l yX0_countAll cX0_countAll 7 none 5 145 X [.ref x0] h o := by
  refine x_met (by decide) (Nat.le_of_ble_eq_true rfl) ?_
  intro p e s m below meth c ls C hl hW hZ
  have hl : lv_has ls 7 [(0, .ref x0)] := hl
  have hkm : Km h h := Km.rf h
  refine lv_iconst (v := (0 : Int32)) C.1 C.2.1 dX0_countAll_0 (by decide) ?_
  refine lv_istore_n (lv' := [(1, .int (0 : Int32)), (0, .ref x0)]) C.1 C.2.1 dX0_countAll_1 rfl hl (by decide) rfl (fun ls hl => ?_)
  exact bX0_countAll_2 C F k_x0 hkm hW hZ _ (lv_sub hl [1, 0] rfl) hE
theorem dX0_settleCount_0 : decode cX0_settleCount 0 = .ok (.aload_n 0, 1) := by decide +kernel
theorem dX0_settleCount_1 : decode cX0_settleCount 1 = .ok (.getfield 34, 3) := by decide +kernel
theorem dX0_settleCount_4 : decode cX0_settleCount 4 = .ok (.iload_n 1, 1) := by decide +kernel
theorem dX0_settleCount_5 : decode cX0_settleCount 5 = .ok (.iaload, 1) := by decide +kernel
theorem dX0_settleCount_6 : decode cX0_settleCount 6 = .ok (.sipush 4096, 3) := by decide +kernel
theorem dX0_settleCount_9 : decode cX0_settleCount 9 = .ok (.idiv, 1) := by decide +kernel
theorem dX0_settleCount_10 : decode cX0_settleCount 10 = .ok (.istore_n 2, 1) := by decide +kernel
theorem dX0_settleCount_11 : decode cX0_settleCount 11 = .ok (.aload_n 0, 1) := by decide +kernel
theorem dX0_settleCount_12 : decode cX0_settleCount 12 = .ok (.getfield 34, 3) := by decide +kernel
theorem dX0_settleCount_15 : decode cX0_settleCount 15 = .ok (.iload_n 1, 1) := by decide +kernel
theorem dX0_settleCount_16 : decode cX0_settleCount 16 = .ok (.iaload, 1) := by decide +kernel
theorem dX0_settleCount_17 : decode cX0_settleCount 17 = .ok (.sipush 4095, 3) := by decide +kernel
theorem dX0_settleCount_20 : decode cX0_settleCount 20 = .ok (.iand, 1) := by decide +kernel
theorem dX0_settleCount_21 : decode cX0_settleCount 21 = .ok (.istore_n 3, 1) := by decide +kernel
theorem dX0_settleCount_22 : decode cX0_settleCount 22 = .ok (.aload_n 0, 1) := by decide +kernel
theorem dX0_settleCount_23 : decode cX0_settleCount 23 = .ok (.getfield 34, 3) := by decide +kernel
theorem dX0_settleCount_26 : decode cX0_settleCount 26 = .ok (.iload_n 1, 1) := by decide +kernel
theorem dX0_settleCount_27 : decode cX0_settleCount 27 = .ok (.aload_n 0, 1) := by decide +kernel
theorem dX0_settleCount_28 : decode cX0_settleCount 28 = .ok (.getfield 40, 3) := by decide +kernel
theorem dX0_settleCount_31 : decode cX0_settleCount 31 = .ok (.iconst 2, 1) := by decide +kernel
theorem dX0_settleCount_32 : decode cX0_settleCount 32 = .ok (.invokevirtual 212, 3) := by decide +kernel
theorem dX0_settleCount_35 : decode cX0_settleCount 35 = .ok (.ifCond .eq 14, 3) := by decide +kernel
theorem dX0_settleCount_38 : decode cX0_settleCount 38 = .ok (.iload_n 2, 1) := by decide +kernel
theorem dX0_settleCount_39 : decode cX0_settleCount 39 = .ok (.ifCond .le 10, 3) := by decide +kernel
theorem dX0_settleCount_42 : decode cX0_settleCount 42 = .ok (.iload_n 2, 1) := by decide +kernel
theorem dX0_settleCount_43 : decode cX0_settleCount 43 = .ok (.ldc 215, 2) := by decide +kernel
theorem dX0_settleCount_45 : decode cX0_settleCount 45 = .ok (.ior, 1) := by decide +kernel
theorem dX0_settleCount_46 : decode cX0_settleCount 46 = .ok (.goto 6, 3) := by decide +kernel
theorem dX0_settleCount_49 : decode cX0_settleCount 49 = .ok (.iload_n 2, 1) := by decide +kernel
theorem dX0_settleCount_50 : decode cX0_settleCount 50 = .ok (.iload_n 3, 1) := by decide +kernel
theorem dX0_settleCount_51 : decode cX0_settleCount 51 = .ok (.iadd, 1) := by decide +kernel
theorem dX0_settleCount_52 : decode cX0_settleCount 52 = .ok (.iastore, 1) := by decide +kernel
theorem dX0_settleCount_53 : decode cX0_settleCount 53 = .ok (.return_, 1) := by decide +kernel
set_option maxRecDepth 20000 in
theorem moX0_settleCount_52 {o : Hp} {h : Hp} {t0 : Int32} {t1 : Int32} {t2 : Nat} (hE : sX0_settleCount_52 h  t0 t1 t2 = some o) : Le h o := by
  obtain ⟨g_1, hE⟩ := gd_e hE
  obtain ⟨h_2, eh_2, hE⟩ := nm_e2 hE
  refine (le_I eh_2).tr ?_
  exact le_some1 hE
set_option maxRecDepth 20000 in
theorem moX0_settleCount_49 {o : Hp} {h : Hp} {x2 : Int32} {x3 : Int32} {t0 : Int32} {t1 : Nat} (hE : sX0_settleCount_49 h x2 x3 t0 t1 = some o) : Le h o := by
  exact moX0_settleCount_52 hE
set_option maxRecDepth 20000 in
theorem moX0_settleCount {o : Hp} {h : Hp} {x0 : Nat} {x1 : Int32} (hE : sX0_settleCount h x0 x1 = some o) : Le h o := by
  obtain ⟨r_1, er_1, hE⟩ := cl_e hE
  obtain ⟨g_2, hE⟩ := gd_e hE
  obtain ⟨v_3, ev_3, hE⟩ := nm_e2 hE
  obtain ⟨r_4, er_4, hE⟩ := cl_e hE
  obtain ⟨g_5, hE⟩ := gd_e hE
  obtain ⟨v_6, ev_6, hE⟩ := nm_e2 hE
  obtain ⟨r_7, er_7, hE⟩ := cl_e hE
  obtain ⟨r_8, er_8, hE⟩ := cl_e hE
  obtain ⟨o_9, eo_9, hE⟩ := cl_e hE
  refine (moX1_has eo_9).tr ?_
  rcases br_e hE with ⟨_, hE⟩ | ⟨_, hE⟩
  · exact moX0_settleCount_49 hE
  · rcases br_e hE with ⟨_, hE⟩ | ⟨_, hE⟩
    · exact moX0_settleCount_49 hE
    · exact moX0_settleCount_52 hE
set_option maxRecDepth 20000 in
theorem bX0_settleCount_52 {p : Program} {l : Launch} {e : Env} {s : State} {m : MethodId} {args : Array Value} {below : List Frame} {meth : Method} {c : Code} {X : Ec} {h0 : Hp} {o : Hp} (C : Cx X p s m args meth c RX0 cX0_settleCount 4 none "settleCount") {h : Hp} {t0 : Int32} {t1 : Int32} {t2 : Nat} {H : Heap} {locs : List Loc} (k_t2 : hK h t2 = 17) (hkm : Km h0 h) (hW : Wx X h H) (hZ : va_S (aA (eB X)) s.heap H locs) (ls : Array Slot) (hl : lv_has ls 4 []) (hE : sX0_settleCount_52 h  t0 t1 t2 = some o) : W p l e (rm 1 21) s m args below meth c H locs 0 0 (MQ below (QV X h0 o) args s 0 0 (aA (eB X))) (F0 m 52 ls [.int t0, .int t1, .ref t2]) := by
  obtain ⟨g_1, hE⟩ := gd_e hE
  obtain ⟨h_2, eh_2, hE⟩ := nm_e2 hE
  refine y_iast C hW hZ k_t2 g_1 eh_2 dX0_settleCount_52 (fun _ _ hW km hZ => ?_)
  replace hkm := hkm.tr km
  exact x_vret C rfl hW hZ hkm hE dX0_settleCount_53
set_option maxRecDepth 20000 in
theorem bX0_settleCount_49 {p : Program} {l : Launch} {e : Env} {s : State} {m : MethodId} {args : Array Value} {below : List Frame} {meth : Method} {c : Code} {X : Ec} {h0 : Hp} {o : Hp} (C : Cx X p s m args meth c RX0 cX0_settleCount 4 none "settleCount") {h : Hp} {x2 : Int32} {x3 : Int32} {t0 : Int32} {t1 : Nat} {H : Heap} {locs : List Loc} (k_t1 : hK h t1 = 17) (hkm : Km h0 h) (hW : Wx X h H) (hZ : va_S (aA (eB X)) s.heap H locs) (ls : Array Slot) (hl : lv_has ls 4 [(2, .int x2), (3, .int x3)]) (hE : sX0_settleCount_49 h x2 x3 t0 t1 = some o) : W p l e (rm 1 21) s m args below meth c H locs 0 0 (MQ below (QV X h0 o) args s 0 0 (aA (eB X))) (F0 m 49 ls [.int t0, .ref t1]) := by
  refine lv_iload_n C.1 C.2.1 dX0_settleCount_49 rfl (lv_at hl 0 rfl) ?_
  refine lv_iload_n C.1 C.2.1 dX0_settleCount_50 rfl (lv_at hl 1 rfl) ?_
  refine lv_iadd C.1 C.2.1 dX0_settleCount_51 ?_
  exact bX0_settleCount_52 C k_t1 hkm hW hZ _ (lv_sub hl [] rfl) hE
set_option maxRecDepth 20000 in
theorem ct_X0_settleCount (l : Launch) (X : Ec) {h : Hp} {x0 : Nat} {x1 : Int32} {o : Hp} (k_x0 : hK h x0 = 0) (hE : sX0_settleCount h x0 x1 = some o) : MetV l yX0_settleCount cX0_settleCount 4 none 1 21 X [.ref x0, .int x1] h o := by
  refine x_met (by decide) (Nat.le_of_ble_eq_true rfl) ?_
  intro p e s m below meth c ls C hl hW hZ
  have hl : lv_has ls 4 [(0, .ref x0), (1, .int x1)] := hl
  have hkm : Km h h := Km.rf h
  refine lv_aload_n C.1 C.2.1 dX0_settleCount_0 rfl (lv_at hl 0 rfl) ?_
  obtain ⟨r_1, er_1, hE⟩ := cl_e hE
  refine gf_X0_34 C hW k_x0 er_1 dX0_settleCount_1 (fun k_r_1 => ?_)
  refine lv_iload_n C.1 C.2.1 dX0_settleCount_4 rfl (lv_at hl 1 rfl) ?_
  obtain ⟨g_2, hE⟩ := gd_e hE
  refine y_iald C hW k_r_1 g_2 dX0_settleCount_5 ?_
  refine lv_sipush (v := (4096 : Int32)) C.1 C.2.1 dX0_settleCount_6 (by decide) ?_
  refine lv_idiv C.1 C.2.1 dX0_settleCount_9 (by decide) ?_
  obtain ⟨v_3, ev_3, hE⟩ := nm_e2 hE
  refine x_nmI ev_3 ?_
  refine lv_istore_n (lv' := [(2, .int v_3), (0, .ref x0), (1, .int x1)]) C.1 C.2.1 dX0_settleCount_10 rfl hl (by decide) rfl (fun ls hl => ?_)
  refine lv_aload_n C.1 C.2.1 dX0_settleCount_11 rfl (lv_at hl 1 rfl) ?_
  obtain ⟨r_4, er_4, hE⟩ := cl_e hE
  refine gf_X0_34 C hW k_x0 er_4 dX0_settleCount_12 (fun k_r_4 => ?_)
  refine lv_iload_n C.1 C.2.1 dX0_settleCount_15 rfl (lv_at hl 2 rfl) ?_
  obtain ⟨g_5, hE⟩ := gd_e hE
  refine y_iald C hW k_r_4 g_5 dX0_settleCount_16 ?_
  refine lv_sipush (v := (4095 : Int32)) C.1 C.2.1 dX0_settleCount_17 (by decide) ?_
  refine lv_iand C.1 C.2.1 dX0_settleCount_20 ?_
  obtain ⟨v_6, ev_6, hE⟩ := nm_e2 hE
  refine x_nmI ev_6 ?_
  refine lv_istore_n (lv' := [(3, .int v_6), (2, .int v_3), (0, .ref x0), (1, .int x1)]) C.1 C.2.1 dX0_settleCount_21 rfl hl (by decide) rfl (fun ls hl => ?_)
  refine lv_aload_n C.1 C.2.1 dX0_settleCount_22 rfl (lv_at hl 2 rfl) ?_
  obtain ⟨r_7, er_7, hE⟩ := cl_e hE
  refine gf_X0_34 C hW k_x0 er_7 dX0_settleCount_23 (fun k_r_7 => ?_)
  refine lv_iload_n C.1 C.2.1 dX0_settleCount_26 rfl (lv_at hl 3 rfl) ?_
  refine lv_aload_n C.1 C.2.1 dX0_settleCount_27 rfl (lv_at hl 2 rfl) ?_
  obtain ⟨r_8, er_8, hE⟩ := cl_e hE
  refine gf_X0_40 C hW k_x0 er_8 dX0_settleCount_28 (fun k_r_8 => ?_)
  refine lv_iconst (v := (2 : Int32)) C.1 C.2.1 dX0_settleCount_31 (by decide) ?_
  obtain ⟨o_9, eo_9, hE⟩ := cl_e hE
  refine x_kI (o := o_9) (z_runV (As := [.int (2 : Int32)]) (rest := [.int x1, .ref r_7]) C (ct_X1_has l X k_r_8 eo_9) cw_X0_212 hW hZ k_r_8 (by decide) rfl rfl rfl hl.1 (Nat.le_of_ble_eq_true rfl) rfl dX0_settleCount_32 ⟨Nat.le_of_ble_eq_true rfl, Nat.le_of_ble_eq_true rfl⟩ ⟨Nat.le_refl _, Nat.le_refl _⟩) hZ (fun _ _ hW km hZ => ?_)
  replace hkm := hkm.tr km
  replace k_x0 := km.at k_x0 (by decide)
  replace k_r_7 := km.at k_r_7 (by decide)
  refine lv_if_eq (tgt := 49) C.1 C.2.1 dX0_settleCount_35 (by decide) (fun c_10 => ?_) (fun c_10 => ?_)
  · have hE := br_p hE c_10
    exact bX0_settleCount_49 C k_r_7 hkm hW hZ _ (lv_sub hl [1, 0] rfl) hE
  · have hE := br_n hE c_10
    refine lv_iload_n C.1 C.2.1 dX0_settleCount_38 rfl (lv_at hl 1 rfl) ?_
    refine lv_if_le (tgt := 49) C.1 C.2.1 dX0_settleCount_39 (by decide) (fun c_11 => ?_) (fun c_11 => ?_)
    · have hE := br_p hE c_11
      exact bX0_settleCount_49 C k_r_7 hkm hW hZ _ (lv_sub hl [1, 0] rfl) hE
    · have hE := br_n hE c_11
      refine lv_iload_n C.1 C.2.1 dX0_settleCount_42 rfl (lv_at hl 1 rfl) ?_
      refine lv_ldc (v := (16777216 : Int32)) C.1 C.2.1 C.2.2.2.1 (C.2.2.2.2.1 _ m_1718) dX0_settleCount_43 ?_
      refine lv_ior C.1 C.2.1 dX0_settleCount_45 ?_
      refine lv_goto (tgt := 52) C.1 C.2.1 dX0_settleCount_46 (by decide) ?_
      exact bX0_settleCount_52 C k_r_7 hkm hW hZ _ (lv_sub hl [] rfl) hE
set_option maxRecDepth 100000 in
theorem ms_111 : Cond.selects RX0 yX0_settleCount yX0_settleCount ∈ W0 := w0_in (List.mem_append_left _ (List.mem_of_getElem? (i := 111) rfl)) rfl
set_option maxRecDepth 100000 in
theorem m_1729 : Cond.methodLink RX0 206 yX0_settleCount ∈ W0 := w0_in (List.mem_append_right _ (List.mem_of_getElem? (i := 1729) rfl)) rfl
set_option maxRecDepth 100000 in
theorem m_1731 : Cond.instanceMethod yX0_settleCount ∈ W0 := w0_in (List.mem_append_right _ (List.mem_of_getElem? (i := 1731) rfl)) rfl
set_option maxRecDepth 100000 in
theorem m_1732 : Cond.code yX0_settleCount cX0_settleCount 4 none ∈ W0 := w0_in (List.mem_append_right _ (List.mem_of_getElem? (i := 1732) rfl)) rfl
theorem cw_X0_206 : cwd RX0 206 yX0_settleCount cX0_settleCount 4 none false 1 := ⟨m_1732, m_1729, m_13, ⟨m_1731, ms_111⟩, by decide, by decide, by decide +kernel⟩
theorem dX0_queueEnds_0 : decode cX0_queueEnds 0 = .ok (.iconst 0, 1) := by decide +kernel
theorem dX0_queueEnds_1 : decode cX0_queueEnds 1 = .ok (.istore_n 1, 1) := by decide +kernel
theorem dX0_queueEnds_2 : decode cX0_queueEnds 2 = .ok (.iload_n 1, 1) := by decide +kernel
theorem dX0_queueEnds_3 : decode cX0_queueEnds 3 = .ok (.aload_n 0, 1) := by decide +kernel
theorem dX0_queueEnds_4 : decode cX0_queueEnds 4 = .ok (.getfield 129, 3) := by decide +kernel
theorem dX0_queueEnds_7 : decode cX0_queueEnds 7 = .ok (.if_icmp .ge 188, 3) := by decide +kernel
theorem dX0_queueEnds_10 : decode cX0_queueEnds 10 = .ok (.aload_n 0, 1) := by decide +kernel
theorem dX0_queueEnds_11 : decode cX0_queueEnds 11 = .ok (.getfield 22, 3) := by decide +kernel
theorem dX0_queueEnds_14 : decode cX0_queueEnds 14 = .ok (.iload_n 1, 1) := by decide +kernel
theorem dX0_queueEnds_15 : decode cX0_queueEnds 15 = .ok (.iaload, 1) := by decide +kernel
theorem dX0_queueEnds_16 : decode cX0_queueEnds 16 = .ok (.istore_n 2, 1) := by decide +kernel
theorem dX0_queueEnds_17 : decode cX0_queueEnds 17 = .ok (.iload_n 2, 1) := by decide +kernel
theorem dX0_queueEnds_18 : decode cX0_queueEnds 18 = .ok (.aload_n 0, 1) := by decide +kernel
theorem dX0_queueEnds_19 : decode cX0_queueEnds 19 = .ok (.getfield 22, 3) := by decide +kernel
theorem dX0_queueEnds_22 : decode cX0_queueEnds 22 = .ok (.iload_n 1, 1) := by decide +kernel
theorem dX0_queueEnds_23 : decode cX0_queueEnds 23 = .ok (.iconst 1, 1) := by decide +kernel
theorem dX0_queueEnds_24 : decode cX0_queueEnds 24 = .ok (.iadd, 1) := by decide +kernel
theorem dX0_queueEnds_25 : decode cX0_queueEnds 25 = .ok (.iaload, 1) := by decide +kernel
theorem dX0_queueEnds_26 : decode cX0_queueEnds 26 = .ok (.if_icmp .ge 163, 3) := by decide +kernel
theorem dX0_queueEnds_29 : decode cX0_queueEnds 29 = .ok (.aload_n 0, 1) := by decide +kernel
theorem dX0_queueEnds_30 : decode cX0_queueEnds 30 = .ok (.getfield 31, 3) := by decide +kernel
theorem dX0_queueEnds_33 : decode cX0_queueEnds 33 = .ok (.iload_n 2, 1) := by decide +kernel
theorem dX0_queueEnds_34 : decode cX0_queueEnds 34 = .ok (.iaload, 1) := by decide +kernel
theorem dX0_queueEnds_35 : decode cX0_queueEnds 35 = .ok (.ldc 97, 2) := by decide +kernel
theorem dX0_queueEnds_37 : decode cX0_queueEnds 37 = .ok (.if_icmp .ne 8, 3) := by decide +kernel
theorem dX0_queueEnds_40 : decode cX0_queueEnds 40 = .ok (.aload_n 0, 1) := by decide +kernel
theorem dX0_queueEnds_41 : decode cX0_queueEnds 41 = .ok (.iload_n 2, 1) := by decide +kernel
theorem dX0_queueEnds_42 : decode cX0_queueEnds 42 = .ok (.invokevirtual 206, 3) := by decide +kernel
theorem dX0_queueEnds_45 : decode cX0_queueEnds 45 = .ok (.aload_n 0, 1) := by decide +kernel
theorem dX0_queueEnds_46 : decode cX0_queueEnds 46 = .ok (.getfield 31, 3) := by decide +kernel
theorem dX0_queueEnds_49 : decode cX0_queueEnds 49 = .ok (.iload_n 2, 1) := by decide +kernel
theorem dX0_queueEnds_50 : decode cX0_queueEnds 50 = .ok (.iaload, 1) := by decide +kernel
theorem dX0_queueEnds_51 : decode cX0_queueEnds 51 = .ok (.ldc 97, 2) := by decide +kernel
theorem dX0_queueEnds_53 : decode cX0_queueEnds 53 = .ok (.if_icmp .ne 20, 3) := by decide +kernel
theorem dX0_queueEnds_56 : decode cX0_queueEnds 56 = .ok (.aload_n 0, 1) := by decide +kernel
theorem dX0_queueEnds_57 : decode cX0_queueEnds 57 = .ok (.getfield 34, 3) := by decide +kernel
theorem dX0_queueEnds_60 : decode cX0_queueEnds 60 = .ok (.iload_n 2, 1) := by decide +kernel
theorem dX0_queueEnds_61 : decode cX0_queueEnds 61 = .ok (.iaload, 1) := by decide +kernel
theorem dX0_queueEnds_62 : decode cX0_queueEnds 62 = .ok (.sipush 4095, 3) := by decide +kernel
theorem dX0_queueEnds_65 : decode cX0_queueEnds 65 = .ok (.iand, 1) := by decide +kernel
theorem dX0_queueEnds_66 : decode cX0_queueEnds 66 = .ok (.ifCond .ne 7, 3) := by decide +kernel
theorem dX0_queueEnds_69 : decode cX0_queueEnds 69 = .ok (.iconst 1, 1) := by decide +kernel
theorem dX0_queueEnds_70 : decode cX0_queueEnds 70 = .ok (.goto 4, 3) := by decide +kernel
theorem dX0_queueEnds_73 : decode cX0_queueEnds 73 = .ok (.iconst 0, 1) := by decide +kernel
theorem dX0_queueEnds_74 : decode cX0_queueEnds 74 = .ok (.istore_n 3, 1) := by decide +kernel
theorem dX0_queueEnds_75 : decode cX0_queueEnds 75 = .ok (.iload_n 3, 1) := by decide +kernel
theorem dX0_queueEnds_76 : decode cX0_queueEnds 76 = .ok (.ifCond .eq 80, 3) := by decide +kernel
theorem dX0_queueEnds_79 : decode cX0_queueEnds 79 = .ok (.aload_n 0, 1) := by decide +kernel
theorem dX0_queueEnds_80 : decode cX0_queueEnds 80 = .ok (.aload_n 0, 1) := by decide +kernel
theorem dX0_queueEnds_81 : decode cX0_queueEnds 81 = .ok (.getfield 18, 3) := by decide +kernel
theorem dX0_queueEnds_84 : decode cX0_queueEnds 84 = .ok (.iload_n 1, 1) := by decide +kernel
theorem dX0_queueEnds_85 : decode cX0_queueEnds 85 = .ok (.iaload, 1) := by decide +kernel
theorem dX0_queueEnds_86 : decode cX0_queueEnds 86 = .ok (.iload_n 2, 1) := by decide +kernel
theorem dX0_queueEnds_87 : decode cX0_queueEnds 87 = .ok (.aload_n 0, 1) := by decide +kernel
theorem dX0_queueEnds_88 : decode cX0_queueEnds 88 = .ok (.getfield 22, 3) := by decide +kernel
theorem dX0_queueEnds_91 : decode cX0_queueEnds 91 = .ok (.iload_n 1, 1) := by decide +kernel
theorem dX0_queueEnds_92 : decode cX0_queueEnds 92 = .ok (.iaload, 1) := by decide +kernel
theorem dX0_queueEnds_93 : decode cX0_queueEnds 93 = .ok (.isub, 1) := by decide +kernel
theorem dX0_queueEnds_94 : decode cX0_queueEnds 94 = .ok (.iconst 1, 1) := by decide +kernel
theorem dX0_queueEnds_95 : decode cX0_queueEnds 95 = .ok (.ishr, 1) := by decide +kernel
theorem dX0_queueEnds_96 : decode cX0_queueEnds 96 = .ok (.invokevirtual 111, 3) := by decide +kernel
theorem dX0_queueEnds_99 : decode cX0_queueEnds 99 = .ok (.ifCond .eq 57, 3) := by decide +kernel
theorem dX0_queueEnds_102 : decode cX0_queueEnds 102 = .ok (.aload_n 0, 1) := by decide +kernel
theorem dX0_queueEnds_103 : decode cX0_queueEnds 103 = .ok (.getfield 14, 3) := by decide +kernel
theorem dX0_queueEnds_106 : decode cX0_queueEnds 106 = .ok (.iload_n 2, 1) := by decide +kernel
theorem dX0_queueEnds_107 : decode cX0_queueEnds 107 = .ok (.aload_n 0, 1) := by decide +kernel
theorem dX0_queueEnds_108 : decode cX0_queueEnds 108 = .ok (.getfield 22, 3) := by decide +kernel
theorem dX0_queueEnds_111 : decode cX0_queueEnds 111 = .ok (.iload_n 1, 1) := by decide +kernel
theorem dX0_queueEnds_112 : decode cX0_queueEnds 112 = .ok (.iaload, 1) := by decide +kernel
theorem dX0_queueEnds_113 : decode cX0_queueEnds 113 = .ok (.isub, 1) := by decide +kernel
theorem dX0_queueEnds_114 : decode cX0_queueEnds 114 = .ok (.iconst 1, 1) := by decide +kernel
theorem dX0_queueEnds_115 : decode cX0_queueEnds 115 = .ok (.iand, 1) := by decide +kernel
theorem dX0_queueEnds_116 : decode cX0_queueEnds 116 = .ok (.putfield 184, 3) := by decide +kernel
theorem dX0_queueEnds_119 : decode cX0_queueEnds 119 = .ok (.aload_n 0, 1) := by decide +kernel
theorem dX0_queueEnds_120 : decode cX0_queueEnds 120 = .ok (.getfield 31, 3) := by decide +kernel
theorem dX0_queueEnds_123 : decode cX0_queueEnds 123 = .ok (.iload_n 2, 1) := by decide +kernel
theorem dX0_queueEnds_124 : decode cX0_queueEnds 124 = .ok (.aload_n 0, 1) := by decide +kernel
theorem dX0_queueEnds_125 : decode cX0_queueEnds 125 = .ok (.aload_n 0, 1) := by decide +kernel
theorem dX0_queueEnds_126 : decode cX0_queueEnds 126 = .ok (.getfield 48, 3) := by decide +kernel
theorem dX0_queueEnds_129 : decode cX0_queueEnds 129 = .ok (.aload_n 0, 1) := by decide +kernel
theorem dX0_queueEnds_130 : decode cX0_queueEnds 130 = .ok (.getfield 14, 3) := by decide +kernel
theorem dX0_queueEnds_133 : decode cX0_queueEnds 133 = .ok (.aload_n 0, 1) := by decide +kernel
theorem dX0_queueEnds_134 : decode cX0_queueEnds 134 = .ok (.getfield 14, 3) := by decide +kernel
theorem dX0_queueEnds_137 : decode cX0_queueEnds 137 = .ok (.getfield 184, 3) := by decide +kernel
theorem dX0_queueEnds_140 : decode cX0_queueEnds 140 = .ok (.invokevirtual 187, 3) := by decide +kernel
theorem dX0_queueEnds_143 : decode cX0_queueEnds 143 = .ok (.ifCond .eq 7, 3) := by decide +kernel
theorem dX0_queueEnds_146 : decode cX0_queueEnds 146 = .ok (.iconst 5, 1) := by decide +kernel
theorem dX0_queueEnds_147 : decode cX0_queueEnds 147 = .ok (.goto 5, 3) := by decide +kernel
theorem dX0_queueEnds_150 : decode cX0_queueEnds 150 = .ok (.bipush 6, 2) := by decide +kernel
theorem dX0_queueEnds_152 : decode cX0_queueEnds 152 = .ok (.invokevirtual 197, 3) := by decide +kernel
theorem dX0_queueEnds_155 : decode cX0_queueEnds 155 = .ok (.iastore, 1) := by decide +kernel
theorem dX0_queueEnds_156 : decode cX0_queueEnds 156 = .ok (.aload_n 0, 1) := by decide +kernel
theorem dX0_queueEnds_157 : decode cX0_queueEnds 157 = .ok (.getfield 31, 3) := by decide +kernel
theorem dX0_queueEnds_160 : decode cX0_queueEnds 160 = .ok (.iload_n 2, 1) := by decide +kernel
theorem dX0_queueEnds_161 : decode cX0_queueEnds 161 = .ok (.iaload, 1) := by decide +kernel
theorem dX0_queueEnds_162 : decode cX0_queueEnds 162 = .ok (.ldc 204, 2) := by decide +kernel
theorem dX0_queueEnds_164 : decode cX0_queueEnds 164 = .ok (.if_icmp .eq 14, 3) := by decide +kernel
theorem dX0_queueEnds_167 : decode cX0_queueEnds 167 = .ok (.aload_n 0, 1) := by decide +kernel
theorem dX0_queueEnds_168 : decode cX0_queueEnds 168 = .ok (.getfield 31, 3) := by decide +kernel
theorem dX0_queueEnds_171 : decode cX0_queueEnds 171 = .ok (.iload_n 2, 1) := by decide +kernel
theorem dX0_queueEnds_172 : decode cX0_queueEnds 172 = .ok (.iaload, 1) := by decide +kernel
theorem dX0_queueEnds_173 : decode cX0_queueEnds 173 = .ok (.ldc 205, 2) := by decide +kernel
theorem dX0_queueEnds_175 : decode cX0_queueEnds 175 = .ok (.if_icmp .ne 8, 3) := by decide +kernel
theorem dX0_queueEnds_178 : decode cX0_queueEnds 178 = .ok (.aload_n 0, 1) := by decide +kernel
theorem dX0_queueEnds_179 : decode cX0_queueEnds 179 = .ok (.iload_n 2, 1) := by decide +kernel
theorem dX0_queueEnds_180 : decode cX0_queueEnds 180 = .ok (.invokevirtual 209, 3) := by decide +kernel
theorem dX0_queueEnds_183 : decode cX0_queueEnds 183 = .ok (.iinc 2 1, 3) := by decide +kernel
theorem dX0_queueEnds_186 : decode cX0_queueEnds 186 = .ok (.goto (-169), 3) := by decide +kernel
theorem dX0_queueEnds_189 : decode cX0_queueEnds 189 = .ok (.iinc 1 1, 3) := by decide +kernel
theorem dX0_queueEnds_192 : decode cX0_queueEnds 192 = .ok (.goto (-190), 3) := by decide +kernel
theorem dX0_queueEnds_195 : decode cX0_queueEnds 195 = .ok (.return_, 1) := by decide +kernel
set_option maxRecDepth 20000 in
theorem moX0_queueEnds_183 {o : Hp} {k_2 : Hp → Nat → Int32 → Option (Hp)} {k_17 : Hp → Nat → Int32 → Int32 → Option (Hp)} {F : Nat} (mk_2 : ∀ (h : Hp) (x0 : Nat) (x1 : Int32), k_2 h x0 x1 = some o → Le h o) (mk_17 : ∀ (h : Hp) (x0 : Nat) (x1 : Int32) (x2 : Int32), k_17 h x0 x1 x2 = some o → Le h o) {h : Hp} {x0 : Nat} {x1 : Int32} {x2 : Int32} (hE : sX0_queueEnds_183 F k_2 k_17 h x0 x1 x2 = some o) : Le h o := by
  obtain ⟨v_1, ev_1, hE⟩ := nm_e2 hE
  exact mk_17 _ _ _ _ hE
set_option maxRecDepth 20000 in
theorem moX0_queueEnds_178 {o : Hp} {k_2 : Hp → Nat → Int32 → Option (Hp)} {k_17 : Hp → Nat → Int32 → Int32 → Option (Hp)} {F : Nat} (mk_2 : ∀ (h : Hp) (x0 : Nat) (x1 : Int32), k_2 h x0 x1 = some o → Le h o) (mk_17 : ∀ (h : Hp) (x0 : Nat) (x1 : Int32) (x2 : Int32), k_17 h x0 x1 x2 = some o → Le h o) {h : Hp} {x0 : Nat} {x1 : Int32} {x2 : Int32} (hE : sX0_queueEnds_178 F k_2 k_17 h x0 x1 x2 = some o) : Le h o := by
  obtain ⟨o_1, eo_1, hE⟩ := cl_e hE
  refine (moX0_push eo_1).tr ?_
  exact moX0_queueEnds_183 mk_2 mk_17 hE
set_option maxRecDepth 20000 in
theorem moX0_queueEnds_156 {o : Hp} {k_2 : Hp → Nat → Int32 → Option (Hp)} {k_17 : Hp → Nat → Int32 → Int32 → Option (Hp)} {F : Nat} (mk_2 : ∀ (h : Hp) (x0 : Nat) (x1 : Int32), k_2 h x0 x1 = some o → Le h o) (mk_17 : ∀ (h : Hp) (x0 : Nat) (x1 : Int32) (x2 : Int32), k_17 h x0 x1 x2 = some o → Le h o) {h : Hp} {x0 : Nat} {x1 : Int32} {x2 : Int32} (hE : sX0_queueEnds_156 F k_2 k_17 h x0 x1 x2 = some o) : Le h o := by
  obtain ⟨r_1, er_1, hE⟩ := cl_e hE
  obtain ⟨g_2, hE⟩ := gd_e hE
  rcases br_e hE with ⟨_, hE⟩ | ⟨_, hE⟩
  · exact moX0_queueEnds_178 mk_2 mk_17 hE
  · obtain ⟨r_4, er_4, hE⟩ := cl_e hE
    obtain ⟨g_5, hE⟩ := gd_e hE
    rcases br_e hE with ⟨_, hE⟩ | ⟨_, hE⟩
    · exact moX0_queueEnds_178 mk_2 mk_17 hE
    · exact moX0_queueEnds_183 mk_2 mk_17 hE
set_option maxRecDepth 20000 in
theorem moX0_queueEnds_152 {o : Hp} {k_2 : Hp → Nat → Int32 → Option (Hp)} {k_17 : Hp → Nat → Int32 → Int32 → Option (Hp)} {F : Nat} (mk_2 : ∀ (h : Hp) (x0 : Nat) (x1 : Int32), k_2 h x0 x1 = some o → Le h o) (mk_17 : ∀ (h : Hp) (x0 : Nat) (x1 : Int32) (x2 : Int32), k_17 h x0 x1 x2 = some o → Le h o) {h : Hp} {x0 : Nat} {x1 : Int32} {x2 : Int32} {t0 : Int32} {t1 : Nat} {t2 : Int32} {t3 : Nat} (hE : sX0_queueEnds_152 F k_2 k_17 h x0 x1 x2 t0 t1 t2 t3 = some o) : Le h o := by
  obtain ⟨o_1, eo_1, hE⟩ := cl_e hE
  refine (moX0_endWorth eo_1).tr ?_
  obtain ⟨g_2, hE⟩ := gd_e hE
  obtain ⟨h_3, eh_3, hE⟩ := nm_e2 hE
  refine (le_I eh_3).tr ?_
  exact moX0_queueEnds_156 mk_2 mk_17 hE
set_option maxRecDepth 20000 in
theorem moX0_queueEnds_74 {o : Hp} {k_2 : Hp → Nat → Int32 → Option (Hp)} {k_17 : Hp → Nat → Int32 → Int32 → Option (Hp)} {F : Nat} (mk_2 : ∀ (h : Hp) (x0 : Nat) (x1 : Int32), k_2 h x0 x1 = some o → Le h o) (mk_17 : ∀ (h : Hp) (x0 : Nat) (x1 : Int32) (x2 : Int32), k_17 h x0 x1 x2 = some o → Le h o) {h : Hp} {x0 : Nat} {x1 : Int32} {x2 : Int32} {t0 : Int32} (hE : sX0_queueEnds_74 F k_2 k_17 h x0 x1 x2 t0 = some o) : Le h o := by
  rcases br_e hE with ⟨_, hE⟩ | ⟨_, hE⟩
  · exact moX0_queueEnds_156 mk_2 mk_17 hE
  · obtain ⟨r_2, er_2, hE⟩ := cl_e hE
    obtain ⟨g_3, hE⟩ := gd_e hE
    obtain ⟨r_4, er_4, hE⟩ := cl_e hE
    obtain ⟨g_5, hE⟩ := gd_e hE
    obtain ⟨o_6, eo_6, hE⟩ := cl_e hE
    refine (moX0_layOut eo_6).tr ?_
    rcases br_e hE with ⟨_, hE⟩ | ⟨_, hE⟩
    · exact moX0_queueEnds_156 mk_2 mk_17 hE
    · obtain ⟨r_8, er_8, hE⟩ := cl_e hE
      obtain ⟨r_9, er_9, hE⟩ := cl_e hE
      obtain ⟨g_10, hE⟩ := gd_e hE
      obtain ⟨h_11, eh_11, hE⟩ := nm_e2 hE
      refine (le_I eh_11).tr ?_
      obtain ⟨r_12, er_12, hE⟩ := cl_e hE
      obtain ⟨r_13, er_13, hE⟩ := cl_e hE
      obtain ⟨r_14, er_14, hE⟩ := cl_e hE
      obtain ⟨r_15, er_15, hE⟩ := cl_e hE
      obtain ⟨o_16, eo_16, hE⟩ := cl_e hE
      refine (moX5_isRoyalHit eo_16).tr ?_
      rcases br_e hE with ⟨_, hE⟩ | ⟨_, hE⟩
      · exact moX0_queueEnds_152 mk_2 mk_17 hE
      · exact moX0_queueEnds_152 mk_2 mk_17 hE
set_option maxRecDepth 20000 in
theorem moX0_queueEnds_73 {o : Hp} {k_2 : Hp → Nat → Int32 → Option (Hp)} {k_17 : Hp → Nat → Int32 → Int32 → Option (Hp)} {F : Nat} (mk_2 : ∀ (h : Hp) (x0 : Nat) (x1 : Int32), k_2 h x0 x1 = some o → Le h o) (mk_17 : ∀ (h : Hp) (x0 : Nat) (x1 : Int32) (x2 : Int32), k_17 h x0 x1 x2 = some o → Le h o) {h : Hp} {x0 : Nat} {x1 : Int32} {x2 : Int32} (hE : sX0_queueEnds_73 F k_2 k_17 h x0 x1 x2 = some o) : Le h o := by
  exact moX0_queueEnds_74 mk_2 mk_17 hE
set_option maxRecDepth 20000 in
theorem moX0_queueEnds_45 {o : Hp} {k_2 : Hp → Nat → Int32 → Option (Hp)} {k_17 : Hp → Nat → Int32 → Int32 → Option (Hp)} {F : Nat} (mk_2 : ∀ (h : Hp) (x0 : Nat) (x1 : Int32), k_2 h x0 x1 = some o → Le h o) (mk_17 : ∀ (h : Hp) (x0 : Nat) (x1 : Int32) (x2 : Int32), k_17 h x0 x1 x2 = some o → Le h o) {h : Hp} {x0 : Nat} {x1 : Int32} {x2 : Int32} (hE : sX0_queueEnds_45 F k_2 k_17 h x0 x1 x2 = some o) : Le h o := by
  obtain ⟨r_1, er_1, hE⟩ := cl_e hE
  obtain ⟨g_2, hE⟩ := gd_e hE
  rcases br_e hE with ⟨_, hE⟩ | ⟨_, hE⟩
  · obtain ⟨r_4, er_4, hE⟩ := cl_e hE
    obtain ⟨g_5, hE⟩ := gd_e hE
    rcases br_e hE with ⟨_, hE⟩ | ⟨_, hE⟩
    · exact moX0_queueEnds_74 mk_2 mk_17 hE
    · exact moX0_queueEnds_73 mk_2 mk_17 hE
  · exact moX0_queueEnds_73 mk_2 mk_17 hE
set_option maxRecDepth 20000 in
theorem moX0_queueEnds_17 {o : Hp} {k_2 : Hp → Nat → Int32 → Option (Hp)} {F : Nat} (mk_2 : ∀ (h : Hp) (x0 : Nat) (x1 : Int32), k_2 h x0 x1 = some o → Le h o) : ∀ (f : Nat) {h : Hp} {x0 : Nat} {x1 : Int32} {x2 : Int32}, sX0_queueEnds_17 F k_2 f h x0 x1 x2 = some o → Le h o := by
  intro f
  induction f with
  | zero =>
    intro h x0 x1 x2 hE
    rw [sX0_queueEnds_17] at hE
    cases hE
  | succ f ih =>
    intro h x0 x1 x2 hE
    rw [sX0_queueEnds_17] at hE
    have mk_17 : ∀ (h : Hp) (x0 : Nat) (x1 : Int32) (x2 : Int32), sX0_queueEnds_17 F k_2 f h x0 x1 x2 = some o → Le h o := fun h x0 x1 x2 hE => ih hE
    obtain ⟨r_1, er_1, hE⟩ := cl_e hE
    obtain ⟨g_2, hE⟩ := gd_e hE
    rcases br_e hE with ⟨_, hE⟩ | ⟨_, hE⟩
    · obtain ⟨v_4, ev_4, hE⟩ := nm_e2 hE
      exact mk_2 _ _ _ hE
    · obtain ⟨r_5, er_5, hE⟩ := cl_e hE
      obtain ⟨g_6, hE⟩ := gd_e hE
      rcases br_e hE with ⟨_, hE⟩ | ⟨_, hE⟩
      · obtain ⟨o_8, eo_8, hE⟩ := cl_e hE
        refine (moX0_settleCount eo_8).tr ?_
        exact moX0_queueEnds_45 mk_2 mk_17 hE
      · exact moX0_queueEnds_45 mk_2 mk_17 hE
set_option maxRecDepth 20000 in
theorem moX0_queueEnds_2 {o : Hp} {F : Nat} : ∀ (f : Nat) {h : Hp} {x0 : Nat} {x1 : Int32}, sX0_queueEnds_2 F f h x0 x1 = some o → Le h o := by
  intro f
  induction f with
  | zero =>
    intro h x0 x1 hE
    rw [sX0_queueEnds_2] at hE
    cases hE
  | succ f ih =>
    intro h x0 x1 hE
    rw [sX0_queueEnds_2] at hE
    have mk_2 : ∀ (h : Hp) (x0 : Nat) (x1 : Int32), sX0_queueEnds_2 F f h x0 x1 = some o → Le h o := fun h x0 x1 hE => ih hE
    rcases br_e hE with ⟨_, hE⟩ | ⟨_, hE⟩
    · exact le_some1 hE
    · obtain ⟨r_2, er_2, hE⟩ := cl_e hE
      obtain ⟨g_3, hE⟩ := gd_e hE
      obtain ⟨v_4, ev_4, hE⟩ := nm_e2 hE
      exact moX0_queueEnds_17 mk_2 _ hE
set_option maxRecDepth 20000 in
theorem moX0_queueEnds {o : Hp} {F : Nat} {h : Hp} {x0 : Nat} (hE : sX0_queueEnds F h x0 = some o) : Le h o := by
  exact moX0_queueEnds_2 _ hE
set_option maxRecDepth 20000 in
theorem bX0_queueEnds_183 {p : Program} {l : Launch} {e : Env} {s : State} {m : MethodId} {args : Array Value} {below : List Frame} {meth : Method} {c : Code} {X : Ec} {h0 : Hp} {o : Hp} {k_2 : Hp → Nat → Int32 → Option (Hp)} {k_17 : Hp → Nat → Int32 → Int32 → Option (Hp)} {F : Nat} (C : Cx X p s m args meth c RX0 cX0_queueEnds 4 none "queueEnds") (hk_2 : ∀ (h : Hp) (x0 : Nat) (x1 : Int32) (H : Heap) (locs : List Loc), hK h x0 = 0 → Km h0 h → Wx X h H → va_S (aA (eB X)) s.heap H locs → ∀ (ls : Array Slot), lv_has ls 4 [(0, .ref x0), (1, .int x1)] → k_2 h x0 x1 = some o → W p l e (rm 3 75) s m args below meth c H locs 0 0 (MQ below (QV X h0 o) args s 0 0 (aA (eB X))) (F0 m 2 ls [])) (hk_17 : ∀ (h : Hp) (x0 : Nat) (x1 : Int32) (x2 : Int32) (H : Heap) (locs : List Loc), hK h x0 = 0 → Km h0 h → Wx X h H → va_S (aA (eB X)) s.heap H locs → ∀ (ls : Array Slot), lv_has ls 4 [(0, .ref x0), (1, .int x1), (2, .int x2)] → k_17 h x0 x1 x2 = some o → W p l e (rm 3 75) s m args below meth c H locs 0 0 (MQ below (QV X h0 o) args s 0 0 (aA (eB X))) (F0 m 17 ls [])) {h : Hp} {x0 : Nat} {x1 : Int32} {x2 : Int32} {H : Heap} {locs : List Loc} (k_x0 : hK h x0 = 0) (hkm : Km h0 h) (hW : Wx X h H) (hZ : va_S (aA (eB X)) s.heap H locs) (ls : Array Slot) (hl : lv_has ls 4 [(0, .ref x0), (1, .int x1), (2, .int x2)]) (hE : sX0_queueEnds_183 F k_2 k_17 h x0 x1 x2 = some o) : W p l e (rm 3 75) s m args below meth c H locs 0 0 (MQ below (QV X h0 o) args s 0 0 (aA (eB X))) (F0 m 183 ls []) := by
  obtain ⟨v_1, ev_1, hE⟩ := nm_e2 hE
  refine lv_iinc (v := v_1) (lv' := [(2, .int v_1), (0, .ref x0), (1, .int x1)]) C.1 C.2.1 dX0_queueEnds_183 hl (k := 2) rfl (by rw [ev_1]; rfl) (by decide) rfl (fun ls hl => ?_)
  refine lv_goto (tgt := 17) C.1 C.2.1 dX0_queueEnds_186 (by decide) ?_
  exact hk_17 _ _ _ _ _ _ k_x0 hkm hW hZ _ (lv_sub hl [1, 2, 0] rfl) hE
set_option maxRecDepth 20000 in
theorem bX0_queueEnds_178 {p : Program} {l : Launch} {e : Env} {s : State} {m : MethodId} {args : Array Value} {below : List Frame} {meth : Method} {c : Code} {X : Ec} {h0 : Hp} {o : Hp} {k_2 : Hp → Nat → Int32 → Option (Hp)} {k_17 : Hp → Nat → Int32 → Int32 → Option (Hp)} {F : Nat} (C : Cx X p s m args meth c RX0 cX0_queueEnds 4 none "queueEnds") (hk_2 : ∀ (h : Hp) (x0 : Nat) (x1 : Int32) (H : Heap) (locs : List Loc), hK h x0 = 0 → Km h0 h → Wx X h H → va_S (aA (eB X)) s.heap H locs → ∀ (ls : Array Slot), lv_has ls 4 [(0, .ref x0), (1, .int x1)] → k_2 h x0 x1 = some o → W p l e (rm 3 75) s m args below meth c H locs 0 0 (MQ below (QV X h0 o) args s 0 0 (aA (eB X))) (F0 m 2 ls [])) (hk_17 : ∀ (h : Hp) (x0 : Nat) (x1 : Int32) (x2 : Int32) (H : Heap) (locs : List Loc), hK h x0 = 0 → Km h0 h → Wx X h H → va_S (aA (eB X)) s.heap H locs → ∀ (ls : Array Slot), lv_has ls 4 [(0, .ref x0), (1, .int x1), (2, .int x2)] → k_17 h x0 x1 x2 = some o → W p l e (rm 3 75) s m args below meth c H locs 0 0 (MQ below (QV X h0 o) args s 0 0 (aA (eB X))) (F0 m 17 ls [])) {h : Hp} {x0 : Nat} {x1 : Int32} {x2 : Int32} {H : Heap} {locs : List Loc} (k_x0 : hK h x0 = 0) (hkm : Km h0 h) (hW : Wx X h H) (hZ : va_S (aA (eB X)) s.heap H locs) (ls : Array Slot) (hl : lv_has ls 4 [(0, .ref x0), (1, .int x1), (2, .int x2)]) (hE : sX0_queueEnds_178 F k_2 k_17 h x0 x1 x2 = some o) : W p l e (rm 3 75) s m args below meth c H locs 0 0 (MQ below (QV X h0 o) args s 0 0 (aA (eB X))) (F0 m 178 ls []) := by
  refine lv_aload_n C.1 C.2.1 dX0_queueEnds_178 rfl (lv_at hl 0 rfl) ?_
  refine lv_iload_n C.1 C.2.1 dX0_queueEnds_179 rfl (lv_at hl 2 rfl) ?_
  obtain ⟨o_1, eo_1, hE⟩ := cl_e hE
  refine x_kV (o := o_1) (z_runV (As := [.int x2]) (rest := []) C (ct_X0_push l X k_x0 eo_1) cw_X0_209 hW hZ k_x0 (by decide) rfl rfl rfl hl.1 (Nat.le_of_ble_eq_true rfl) rfl dX0_queueEnds_180 ⟨Nat.le_of_ble_eq_true rfl, Nat.le_of_ble_eq_true rfl⟩ ⟨Nat.le_refl _, Nat.le_refl _⟩) hZ (fun _ _ hW km hZ => ?_)
  replace hkm := hkm.tr km
  replace k_x0 := km.at k_x0 (by decide)
  exact bX0_queueEnds_183 C hk_2 hk_17 k_x0 hkm hW hZ _ (lv_sub hl [0, 1, 2] rfl) hE
set_option maxRecDepth 20000 in
theorem bX0_queueEnds_156 {p : Program} {l : Launch} {e : Env} {s : State} {m : MethodId} {args : Array Value} {below : List Frame} {meth : Method} {c : Code} {X : Ec} {h0 : Hp} {o : Hp} {k_2 : Hp → Nat → Int32 → Option (Hp)} {k_17 : Hp → Nat → Int32 → Int32 → Option (Hp)} {F : Nat} (C : Cx X p s m args meth c RX0 cX0_queueEnds 4 none "queueEnds") (hk_2 : ∀ (h : Hp) (x0 : Nat) (x1 : Int32) (H : Heap) (locs : List Loc), hK h x0 = 0 → Km h0 h → Wx X h H → va_S (aA (eB X)) s.heap H locs → ∀ (ls : Array Slot), lv_has ls 4 [(0, .ref x0), (1, .int x1)] → k_2 h x0 x1 = some o → W p l e (rm 3 75) s m args below meth c H locs 0 0 (MQ below (QV X h0 o) args s 0 0 (aA (eB X))) (F0 m 2 ls [])) (hk_17 : ∀ (h : Hp) (x0 : Nat) (x1 : Int32) (x2 : Int32) (H : Heap) (locs : List Loc), hK h x0 = 0 → Km h0 h → Wx X h H → va_S (aA (eB X)) s.heap H locs → ∀ (ls : Array Slot), lv_has ls 4 [(0, .ref x0), (1, .int x1), (2, .int x2)] → k_17 h x0 x1 x2 = some o → W p l e (rm 3 75) s m args below meth c H locs 0 0 (MQ below (QV X h0 o) args s 0 0 (aA (eB X))) (F0 m 17 ls [])) {h : Hp} {x0 : Nat} {x1 : Int32} {x2 : Int32} {H : Heap} {locs : List Loc} (k_x0 : hK h x0 = 0) (hkm : Km h0 h) (hW : Wx X h H) (hZ : va_S (aA (eB X)) s.heap H locs) (ls : Array Slot) (hl : lv_has ls 4 [(0, .ref x0), (1, .int x1), (2, .int x2)]) (hE : sX0_queueEnds_156 F k_2 k_17 h x0 x1 x2 = some o) : W p l e (rm 3 75) s m args below meth c H locs 0 0 (MQ below (QV X h0 o) args s 0 0 (aA (eB X))) (F0 m 156 ls []) := by
  refine lv_aload_n C.1 C.2.1 dX0_queueEnds_156 rfl (lv_at hl 0 rfl) ?_
  obtain ⟨r_1, er_1, hE⟩ := cl_e hE
  refine gf_X0_31 C hW k_x0 er_1 dX0_queueEnds_157 (fun k_r_1 => ?_)
  refine lv_iload_n C.1 C.2.1 dX0_queueEnds_160 rfl (lv_at hl 2 rfl) ?_
  obtain ⟨g_2, hE⟩ := gd_e hE
  refine y_iald C hW k_r_1 g_2 dX0_queueEnds_161 ?_
  refine lv_ldc (v := (1000000 : Int32)) C.1 C.2.1 C.2.2.2.1 (C.2.2.2.2.1 _ m_1670) dX0_queueEnds_162 ?_
  refine lv_icmp_eq (tgt := 178) C.1 C.2.1 dX0_queueEnds_164 (by decide) (fun c_3 => ?_) (fun c_3 => ?_)
  · have hE := br_p hE c_3
    exact bX0_queueEnds_178 C hk_2 hk_17 k_x0 hkm hW hZ _ (lv_sub hl [0, 1, 2] rfl) hE
  · have hE := br_n hE c_3
    refine lv_aload_n C.1 C.2.1 dX0_queueEnds_167 rfl (lv_at hl 0 rfl) ?_
    obtain ⟨r_4, er_4, hE⟩ := cl_e hE
    refine gf_X0_31 C hW k_x0 er_4 dX0_queueEnds_168 (fun k_r_4 => ?_)
    refine lv_iload_n C.1 C.2.1 dX0_queueEnds_171 rfl (lv_at hl 2 rfl) ?_
    obtain ⟨g_5, hE⟩ := gd_e hE
    refine y_iald C hW k_r_4 g_5 dX0_queueEnds_172 ?_
    refine lv_ldc (v := (-1000000 : Int32)) C.1 C.2.1 C.2.2.2.1 (C.2.2.2.2.1 _ m_1671) dX0_queueEnds_173 ?_
    refine lv_icmp_ne (tgt := 183) C.1 C.2.1 dX0_queueEnds_175 (by decide) (fun c_6 => ?_) (fun c_6 => ?_)
    · have hE := br_n hE c_6
      exact bX0_queueEnds_183 C hk_2 hk_17 k_x0 hkm hW hZ _ (lv_sub hl [0, 1, 2] rfl) hE
    · have hE := br_p hE c_6
      exact bX0_queueEnds_178 C hk_2 hk_17 k_x0 hkm hW hZ _ (lv_sub hl [0, 1, 2] rfl) hE
set_option maxRecDepth 20000 in
theorem bX0_queueEnds_152 {p : Program} {l : Launch} {e : Env} {s : State} {m : MethodId} {args : Array Value} {below : List Frame} {meth : Method} {c : Code} {X : Ec} {h0 : Hp} {o : Hp} {k_2 : Hp → Nat → Int32 → Option (Hp)} {k_17 : Hp → Nat → Int32 → Int32 → Option (Hp)} {F : Nat} (C : Cx X p s m args meth c RX0 cX0_queueEnds 4 none "queueEnds") (hk_2 : ∀ (h : Hp) (x0 : Nat) (x1 : Int32) (H : Heap) (locs : List Loc), hK h x0 = 0 → Km h0 h → Wx X h H → va_S (aA (eB X)) s.heap H locs → ∀ (ls : Array Slot), lv_has ls 4 [(0, .ref x0), (1, .int x1)] → k_2 h x0 x1 = some o → W p l e (rm 3 75) s m args below meth c H locs 0 0 (MQ below (QV X h0 o) args s 0 0 (aA (eB X))) (F0 m 2 ls [])) (hk_17 : ∀ (h : Hp) (x0 : Nat) (x1 : Int32) (x2 : Int32) (H : Heap) (locs : List Loc), hK h x0 = 0 → Km h0 h → Wx X h H → va_S (aA (eB X)) s.heap H locs → ∀ (ls : Array Slot), lv_has ls 4 [(0, .ref x0), (1, .int x1), (2, .int x2)] → k_17 h x0 x1 x2 = some o → W p l e (rm 3 75) s m args below meth c H locs 0 0 (MQ below (QV X h0 o) args s 0 0 (aA (eB X))) (F0 m 17 ls [])) {h : Hp} {x0 : Nat} {x1 : Int32} {x2 : Int32} {t0 : Int32} {t1 : Nat} {t2 : Int32} {t3 : Nat} {H : Heap} {locs : List Loc} (k_x0 : hK h x0 = 0) (k_t1 : hK h t1 = 0) (k_t3 : hK h t3 = 17) (hkm : Km h0 h) (hW : Wx X h H) (hZ : va_S (aA (eB X)) s.heap H locs) (ls : Array Slot) (hl : lv_has ls 4 [(0, .ref x0), (1, .int x1), (2, .int x2)]) (hE : sX0_queueEnds_152 F k_2 k_17 h x0 x1 x2 t0 t1 t2 t3 = some o) : W p l e (rm 3 75) s m args below meth c H locs 0 0 (MQ below (QV X h0 o) args s 0 0 (aA (eB X))) (F0 m 152 ls [.int t0, .ref t1, .int t2, .ref t3]) := by
  obtain ⟨o_1, eo_1, hE⟩ := cl_e hE
  refine x_kI (o := o_1) (z_runV (As := [.int t0]) (rest := [.int t2, .ref t3]) C (ct_X0_endWorth l X k_t1 eo_1) cw_X0_197 hW hZ k_t1 (by decide) rfl rfl rfl hl.1 (Nat.le_of_ble_eq_true rfl) rfl dX0_queueEnds_152 ⟨Nat.le_of_ble_eq_true rfl, Nat.le_of_ble_eq_true rfl⟩ ⟨Nat.le_refl _, Nat.le_refl _⟩) hZ (fun _ _ hW km hZ => ?_)
  replace hkm := hkm.tr km
  replace k_x0 := km.at k_x0 (by decide)
  replace k_t3 := km.at k_t3 (by decide)
  obtain ⟨g_2, hE⟩ := gd_e hE
  obtain ⟨h_3, eh_3, hE⟩ := nm_e2 hE
  refine y_iast C hW hZ k_t3 g_2 eh_3 dX0_queueEnds_155 (fun _ _ hW km hZ => ?_)
  replace hkm := hkm.tr km
  replace k_x0 := km.at k_x0 (by decide)
  exact bX0_queueEnds_156 C hk_2 hk_17 k_x0 hkm hW hZ _ (lv_sub hl [0, 1, 2] rfl) hE
set_option maxRecDepth 20000 in
theorem bX0_queueEnds_74 {p : Program} {l : Launch} {e : Env} {s : State} {m : MethodId} {args : Array Value} {below : List Frame} {meth : Method} {c : Code} {X : Ec} {h0 : Hp} {o : Hp} {k_2 : Hp → Nat → Int32 → Option (Hp)} {k_17 : Hp → Nat → Int32 → Int32 → Option (Hp)} {F : Nat} (C : Cx X p s m args meth c RX0 cX0_queueEnds 4 none "queueEnds") (hk_2 : ∀ (h : Hp) (x0 : Nat) (x1 : Int32) (H : Heap) (locs : List Loc), hK h x0 = 0 → Km h0 h → Wx X h H → va_S (aA (eB X)) s.heap H locs → ∀ (ls : Array Slot), lv_has ls 4 [(0, .ref x0), (1, .int x1)] → k_2 h x0 x1 = some o → W p l e (rm 3 75) s m args below meth c H locs 0 0 (MQ below (QV X h0 o) args s 0 0 (aA (eB X))) (F0 m 2 ls [])) (hk_17 : ∀ (h : Hp) (x0 : Nat) (x1 : Int32) (x2 : Int32) (H : Heap) (locs : List Loc), hK h x0 = 0 → Km h0 h → Wx X h H → va_S (aA (eB X)) s.heap H locs → ∀ (ls : Array Slot), lv_has ls 4 [(0, .ref x0), (1, .int x1), (2, .int x2)] → k_17 h x0 x1 x2 = some o → W p l e (rm 3 75) s m args below meth c H locs 0 0 (MQ below (QV X h0 o) args s 0 0 (aA (eB X))) (F0 m 17 ls [])) {h : Hp} {x0 : Nat} {x1 : Int32} {x2 : Int32} {t0 : Int32} {H : Heap} {locs : List Loc} (k_x0 : hK h x0 = 0) (hkm : Km h0 h) (hW : Wx X h H) (hZ : va_S (aA (eB X)) s.heap H locs) (ls : Array Slot) (hl : lv_has ls 4 [(0, .ref x0), (1, .int x1), (2, .int x2)]) (hE : sX0_queueEnds_74 F k_2 k_17 h x0 x1 x2 t0 = some o) : W p l e (rm 3 75) s m args below meth c H locs 0 0 (MQ below (QV X h0 o) args s 0 0 (aA (eB X))) (F0 m 74 ls [.int t0]) := by
  refine lv_istore_n (lv' := [(3, .int t0), (0, .ref x0), (1, .int x1), (2, .int x2)]) C.1 C.2.1 dX0_queueEnds_74 rfl hl (by decide) rfl (fun ls hl => ?_)
  refine lv_iload_n C.1 C.2.1 dX0_queueEnds_75 rfl (lv_at hl 0 rfl) ?_
  refine lv_if_eq (tgt := 156) C.1 C.2.1 dX0_queueEnds_76 (by decide) (fun c_1 => ?_) (fun c_1 => ?_)
  · have hE := br_p hE c_1
    exact bX0_queueEnds_156 C hk_2 hk_17 k_x0 hkm hW hZ _ (lv_sub hl [1, 2, 3] rfl) hE
  · have hE := br_n hE c_1
    refine lv_aload_n C.1 C.2.1 dX0_queueEnds_79 rfl (lv_at hl 1 rfl) ?_
    refine lv_aload_n C.1 C.2.1 dX0_queueEnds_80 rfl (lv_at hl 1 rfl) ?_
    obtain ⟨r_2, er_2, hE⟩ := cl_e hE
    refine gf_X0_18 C hW k_x0 er_2 dX0_queueEnds_81 (fun k_r_2 => ?_)
    refine lv_iload_n C.1 C.2.1 dX0_queueEnds_84 rfl (lv_at hl 2 rfl) ?_
    obtain ⟨g_3, hE⟩ := gd_e hE
    refine y_iald C hW k_r_2 g_3 dX0_queueEnds_85 ?_
    refine lv_iload_n C.1 C.2.1 dX0_queueEnds_86 rfl (lv_at hl 3 rfl) ?_
    refine lv_aload_n C.1 C.2.1 dX0_queueEnds_87 rfl (lv_at hl 1 rfl) ?_
    obtain ⟨r_4, er_4, hE⟩ := cl_e hE
    refine gf_X0_22 C hW k_x0 er_4 dX0_queueEnds_88 (fun k_r_4 => ?_)
    refine lv_iload_n C.1 C.2.1 dX0_queueEnds_91 rfl (lv_at hl 2 rfl) ?_
    obtain ⟨g_5, hE⟩ := gd_e hE
    refine y_iald C hW k_r_4 g_5 dX0_queueEnds_92 ?_
    refine lv_isub C.1 C.2.1 dX0_queueEnds_93 ?_
    refine lv_iconst (v := (1 : Int32)) C.1 C.2.1 dX0_queueEnds_94 (by decide) ?_
    refine lv_ishr C.1 C.2.1 dX0_queueEnds_95 ?_
    obtain ⟨o_6, eo_6, hE⟩ := cl_e hE
    refine x_kI (o := o_6) (z_runV (As := [.int (hI h r_2 x1.toNatClampNeg), .int ((x2 - (hI h r_4 x1.toNatClampNeg)) >>> ((1 : Int32) &&& 31))]) (rest := []) C (ct_X0_layOut l X F k_x0 eo_6) cw_X0_111 hW hZ k_x0 (by decide) rfl rfl rfl hl.1 (Nat.le_of_ble_eq_true rfl) rfl dX0_queueEnds_96 ⟨Nat.le_of_ble_eq_true rfl, Nat.le_of_ble_eq_true rfl⟩ ⟨Nat.le_refl _, Nat.le_refl _⟩) hZ (fun _ _ hW km hZ => ?_)
    replace hkm := hkm.tr km
    replace k_x0 := km.at k_x0 (by decide)
    refine lv_if_eq (tgt := 156) C.1 C.2.1 dX0_queueEnds_99 (by decide) (fun c_7 => ?_) (fun c_7 => ?_)
    · have hE := br_p hE c_7
      exact bX0_queueEnds_156 C hk_2 hk_17 k_x0 hkm hW hZ _ (lv_sub hl [1, 2, 3] rfl) hE
    · have hE := br_n hE c_7
      refine lv_aload_n C.1 C.2.1 dX0_queueEnds_102 rfl (lv_at hl 1 rfl) ?_
      obtain ⟨r_8, er_8, hE⟩ := cl_e hE
      refine gf_X0_14 C hW k_x0 er_8 dX0_queueEnds_103 (fun k_r_8 => ?_)
      refine lv_iload_n C.1 C.2.1 dX0_queueEnds_106 rfl (lv_at hl 3 rfl) ?_
      refine lv_aload_n C.1 C.2.1 dX0_queueEnds_107 rfl (lv_at hl 1 rfl) ?_
      obtain ⟨r_9, er_9, hE⟩ := cl_e hE
      refine gf_X0_22 C hW k_x0 er_9 dX0_queueEnds_108 (fun k_r_9 => ?_)
      refine lv_iload_n C.1 C.2.1 dX0_queueEnds_111 rfl (lv_at hl 2 rfl) ?_
      obtain ⟨g_10, hE⟩ := gd_e hE
      refine y_iald C hW k_r_9 g_10 dX0_queueEnds_112 ?_
      refine lv_isub C.1 C.2.1 dX0_queueEnds_113 ?_
      refine lv_iconst (v := (1 : Int32)) C.1 C.2.1 dX0_queueEnds_114 (by decide) ?_
      refine lv_iand C.1 C.2.1 dX0_queueEnds_115 ?_
      obtain ⟨h_11, eh_11, hE⟩ := nm_e2 hE
      refine pf_X0_184 C hW hZ k_r_8 eh_11 dX0_queueEnds_116 (fun _ _ hW km hZ => ?_)
      replace hkm := hkm.tr km
      replace k_x0 := km.at k_x0 (by decide)
      refine lv_aload_n C.1 C.2.1 dX0_queueEnds_119 rfl (lv_at hl 1 rfl) ?_
      obtain ⟨r_12, er_12, hE⟩ := cl_e hE
      refine gf_X0_31 C hW k_x0 er_12 dX0_queueEnds_120 (fun k_r_12 => ?_)
      refine lv_iload_n C.1 C.2.1 dX0_queueEnds_123 rfl (lv_at hl 3 rfl) ?_
      refine lv_aload_n C.1 C.2.1 dX0_queueEnds_124 rfl (lv_at hl 1 rfl) ?_
      refine lv_aload_n C.1 C.2.1 dX0_queueEnds_125 rfl (lv_at hl 1 rfl) ?_
      obtain ⟨r_13, er_13, hE⟩ := cl_e hE
      refine gf_X0_48 C hW k_x0 er_13 dX0_queueEnds_126 (fun k_r_13 => ?_)
      refine lv_aload_n C.1 C.2.1 dX0_queueEnds_129 rfl (lv_at hl 1 rfl) ?_
      obtain ⟨r_14, er_14, hE⟩ := cl_e hE
      refine gf_X0_14 C hW k_x0 er_14 dX0_queueEnds_130 (fun k_r_14 => ?_)
      refine lv_aload_n C.1 C.2.1 dX0_queueEnds_133 rfl (lv_at hl 1 rfl) ?_
      obtain ⟨r_15, er_15, hE⟩ := cl_e hE
      refine gf_X0_14 C hW k_x0 er_15 dX0_queueEnds_134 (fun k_r_15 => ?_)
      refine gf_X0_184 C hW k_r_15 dX0_queueEnds_137 ?_
      obtain ⟨o_16, eo_16, hE⟩ := cl_e hE
      refine x_kI (o := o_16) (z_runV (As := [.ref r_14, .int (hI h_11 r_15 5)]) (rest := [.ref x0, .int x2, .ref r_12]) C (ct_X5_isRoyalHit l X F k_r_13 k_r_14 eo_16) cw_X0_187 hW hZ k_r_13 (by decide) rfl rfl rfl hl.1 (Nat.le_of_ble_eq_true rfl) rfl dX0_queueEnds_140 ⟨Nat.le_of_ble_eq_true rfl, Nat.le_of_ble_eq_true rfl⟩ ⟨Nat.le_refl _, Nat.le_refl _⟩) hZ (fun _ _ hW km hZ => ?_)
      replace hkm := hkm.tr km
      replace k_x0 := km.at k_x0 (by decide)
      replace k_r_12 := km.at k_r_12 (by decide)
      refine lv_if_eq (tgt := 150) C.1 C.2.1 dX0_queueEnds_143 (by decide) (fun c_17 => ?_) (fun c_17 => ?_)
      · have hE := br_p hE c_17
        refine lv_bipush (v := (6 : Int32)) C.1 C.2.1 dX0_queueEnds_150 (by decide) ?_
        exact bX0_queueEnds_152 C hk_2 hk_17 k_x0 k_x0 k_r_12 hkm hW hZ _ (lv_sub hl [1, 2, 3] rfl) hE
      · have hE := br_n hE c_17
        refine lv_iconst (v := (5 : Int32)) C.1 C.2.1 dX0_queueEnds_146 (by decide) ?_
        refine lv_goto (tgt := 152) C.1 C.2.1 dX0_queueEnds_147 (by decide) ?_
        exact bX0_queueEnds_152 C hk_2 hk_17 k_x0 k_x0 k_r_12 hkm hW hZ _ (lv_sub hl [1, 2, 3] rfl) hE
set_option maxRecDepth 20000 in
theorem bX0_queueEnds_73 {p : Program} {l : Launch} {e : Env} {s : State} {m : MethodId} {args : Array Value} {below : List Frame} {meth : Method} {c : Code} {X : Ec} {h0 : Hp} {o : Hp} {k_2 : Hp → Nat → Int32 → Option (Hp)} {k_17 : Hp → Nat → Int32 → Int32 → Option (Hp)} {F : Nat} (C : Cx X p s m args meth c RX0 cX0_queueEnds 4 none "queueEnds") (hk_2 : ∀ (h : Hp) (x0 : Nat) (x1 : Int32) (H : Heap) (locs : List Loc), hK h x0 = 0 → Km h0 h → Wx X h H → va_S (aA (eB X)) s.heap H locs → ∀ (ls : Array Slot), lv_has ls 4 [(0, .ref x0), (1, .int x1)] → k_2 h x0 x1 = some o → W p l e (rm 3 75) s m args below meth c H locs 0 0 (MQ below (QV X h0 o) args s 0 0 (aA (eB X))) (F0 m 2 ls [])) (hk_17 : ∀ (h : Hp) (x0 : Nat) (x1 : Int32) (x2 : Int32) (H : Heap) (locs : List Loc), hK h x0 = 0 → Km h0 h → Wx X h H → va_S (aA (eB X)) s.heap H locs → ∀ (ls : Array Slot), lv_has ls 4 [(0, .ref x0), (1, .int x1), (2, .int x2)] → k_17 h x0 x1 x2 = some o → W p l e (rm 3 75) s m args below meth c H locs 0 0 (MQ below (QV X h0 o) args s 0 0 (aA (eB X))) (F0 m 17 ls [])) {h : Hp} {x0 : Nat} {x1 : Int32} {x2 : Int32} {H : Heap} {locs : List Loc} (k_x0 : hK h x0 = 0) (hkm : Km h0 h) (hW : Wx X h H) (hZ : va_S (aA (eB X)) s.heap H locs) (ls : Array Slot) (hl : lv_has ls 4 [(0, .ref x0), (1, .int x1), (2, .int x2)]) (hE : sX0_queueEnds_73 F k_2 k_17 h x0 x1 x2 = some o) : W p l e (rm 3 75) s m args below meth c H locs 0 0 (MQ below (QV X h0 o) args s 0 0 (aA (eB X))) (F0 m 73 ls []) := by
  refine lv_iconst (v := (0 : Int32)) C.1 C.2.1 dX0_queueEnds_73 (by decide) ?_
  exact bX0_queueEnds_74 C hk_2 hk_17 k_x0 hkm hW hZ _ (lv_sub hl [0, 1, 2] rfl) hE
set_option maxRecDepth 20000 in
theorem bX0_queueEnds_45 {p : Program} {l : Launch} {e : Env} {s : State} {m : MethodId} {args : Array Value} {below : List Frame} {meth : Method} {c : Code} {X : Ec} {h0 : Hp} {o : Hp} {k_2 : Hp → Nat → Int32 → Option (Hp)} {k_17 : Hp → Nat → Int32 → Int32 → Option (Hp)} {F : Nat} (C : Cx X p s m args meth c RX0 cX0_queueEnds 4 none "queueEnds") (hk_2 : ∀ (h : Hp) (x0 : Nat) (x1 : Int32) (H : Heap) (locs : List Loc), hK h x0 = 0 → Km h0 h → Wx X h H → va_S (aA (eB X)) s.heap H locs → ∀ (ls : Array Slot), lv_has ls 4 [(0, .ref x0), (1, .int x1)] → k_2 h x0 x1 = some o → W p l e (rm 3 75) s m args below meth c H locs 0 0 (MQ below (QV X h0 o) args s 0 0 (aA (eB X))) (F0 m 2 ls [])) (hk_17 : ∀ (h : Hp) (x0 : Nat) (x1 : Int32) (x2 : Int32) (H : Heap) (locs : List Loc), hK h x0 = 0 → Km h0 h → Wx X h H → va_S (aA (eB X)) s.heap H locs → ∀ (ls : Array Slot), lv_has ls 4 [(0, .ref x0), (1, .int x1), (2, .int x2)] → k_17 h x0 x1 x2 = some o → W p l e (rm 3 75) s m args below meth c H locs 0 0 (MQ below (QV X h0 o) args s 0 0 (aA (eB X))) (F0 m 17 ls [])) {h : Hp} {x0 : Nat} {x1 : Int32} {x2 : Int32} {H : Heap} {locs : List Loc} (k_x0 : hK h x0 = 0) (hkm : Km h0 h) (hW : Wx X h H) (hZ : va_S (aA (eB X)) s.heap H locs) (ls : Array Slot) (hl : lv_has ls 4 [(0, .ref x0), (1, .int x1), (2, .int x2)]) (hE : sX0_queueEnds_45 F k_2 k_17 h x0 x1 x2 = some o) : W p l e (rm 3 75) s m args below meth c H locs 0 0 (MQ below (QV X h0 o) args s 0 0 (aA (eB X))) (F0 m 45 ls []) := by
  refine lv_aload_n C.1 C.2.1 dX0_queueEnds_45 rfl (lv_at hl 0 rfl) ?_
  obtain ⟨r_1, er_1, hE⟩ := cl_e hE
  refine gf_X0_31 C hW k_x0 er_1 dX0_queueEnds_46 (fun k_r_1 => ?_)
  refine lv_iload_n C.1 C.2.1 dX0_queueEnds_49 rfl (lv_at hl 2 rfl) ?_
  obtain ⟨g_2, hE⟩ := gd_e hE
  refine y_iald C hW k_r_1 g_2 dX0_queueEnds_50 ?_
  refine lv_ldc (v := (3000000 : Int32)) C.1 C.2.1 C.2.2.2.1 (C.2.2.2.2.1 _ m_1664) dX0_queueEnds_51 ?_
  refine lv_icmp_ne (tgt := 73) C.1 C.2.1 dX0_queueEnds_53 (by decide) (fun c_3 => ?_) (fun c_3 => ?_)
  · have hE := br_n hE c_3
    exact bX0_queueEnds_73 C hk_2 hk_17 k_x0 hkm hW hZ _ (lv_sub hl [0, 1, 2] rfl) hE
  · have hE := br_p hE c_3
    refine lv_aload_n C.1 C.2.1 dX0_queueEnds_56 rfl (lv_at hl 0 rfl) ?_
    obtain ⟨r_4, er_4, hE⟩ := cl_e hE
    refine gf_X0_34 C hW k_x0 er_4 dX0_queueEnds_57 (fun k_r_4 => ?_)
    refine lv_iload_n C.1 C.2.1 dX0_queueEnds_60 rfl (lv_at hl 2 rfl) ?_
    obtain ⟨g_5, hE⟩ := gd_e hE
    refine y_iald C hW k_r_4 g_5 dX0_queueEnds_61 ?_
    refine lv_sipush (v := (4095 : Int32)) C.1 C.2.1 dX0_queueEnds_62 (by decide) ?_
    refine lv_iand C.1 C.2.1 dX0_queueEnds_65 ?_
    refine lv_if_ne (tgt := 73) C.1 C.2.1 dX0_queueEnds_66 (by decide) (fun c_6 => ?_) (fun c_6 => ?_)
    · have hE := br_n hE c_6
      exact bX0_queueEnds_73 C hk_2 hk_17 k_x0 hkm hW hZ _ (lv_sub hl [0, 1, 2] rfl) hE
    · have hE := br_p hE c_6
      refine lv_iconst (v := (1 : Int32)) C.1 C.2.1 dX0_queueEnds_69 (by decide) ?_
      refine lv_goto (tgt := 74) C.1 C.2.1 dX0_queueEnds_70 (by decide) ?_
      exact bX0_queueEnds_74 C hk_2 hk_17 k_x0 hkm hW hZ _ (lv_sub hl [0, 1, 2] rfl) hE
set_option maxRecDepth 20000 in
theorem bX0_queueEnds_17 {p : Program} {l : Launch} {e : Env} {s : State} {m : MethodId} {args : Array Value} {below : List Frame} {meth : Method} {c : Code} {X : Ec} {h0 : Hp} {o : Hp} {k_2 : Hp → Nat → Int32 → Option (Hp)} {F : Nat} (C : Cx X p s m args meth c RX0 cX0_queueEnds 4 none "queueEnds") (hk_2 : ∀ (h : Hp) (x0 : Nat) (x1 : Int32) (H : Heap) (locs : List Loc), hK h x0 = 0 → Km h0 h → Wx X h H → va_S (aA (eB X)) s.heap H locs → ∀ (ls : Array Slot), lv_has ls 4 [(0, .ref x0), (1, .int x1)] → k_2 h x0 x1 = some o → W p l e (rm 3 75) s m args below meth c H locs 0 0 (MQ below (QV X h0 o) args s 0 0 (aA (eB X))) (F0 m 2 ls [])) : ∀ (f : Nat) {h : Hp} {x0 : Nat} {x1 : Int32} {x2 : Int32} {H : Heap} {locs : List Loc} (k_x0 : hK h x0 = 0), Km h0 h → Wx X h H → va_S (aA (eB X)) s.heap H locs → ∀ (ls : Array Slot), lv_has ls 4 [(0, .ref x0), (1, .int x1), (2, .int x2)] → sX0_queueEnds_17 F k_2 f h x0 x1 x2 = some o → W p l e (rm 3 75) s m args below meth c H locs 0 0 (MQ below (QV X h0 o) args s 0 0 (aA (eB X))) (F0 m 17 ls []) := by
  intro f
  induction f with
  | zero =>
    intro h x0 x1 x2 H locs k_x0 hkm hW hZ ls hl hE
    rw [sX0_queueEnds_17] at hE
    cases hE
  | succ f ih =>
    intro h x0 x1 x2 H locs k_x0 hkm hW hZ ls hl hE
    rw [sX0_queueEnds_17] at hE
    have hk_17 : ∀ (h : Hp) (x0 : Nat) (x1 : Int32) (x2 : Int32) (H : Heap) (locs : List Loc), hK h x0 = 0 → Km h0 h → Wx X h H → va_S (aA (eB X)) s.heap H locs → ∀ (ls : Array Slot), lv_has ls 4 [(0, .ref x0), (1, .int x1), (2, .int x2)] → sX0_queueEnds_17 F k_2 f h x0 x1 x2 = some o → W p l e (rm 3 75) s m args below meth c H locs 0 0 (MQ below (QV X h0 o) args s 0 0 (aA (eB X))) (F0 m 17 ls []) := fun h x0 x1 x2 H locs k_x0 a b c ls hl hE => ih k_x0 a b c ls hl hE
    refine lv_iload_n C.1 C.2.1 dX0_queueEnds_17 rfl (lv_at hl 2 rfl) ?_
    refine lv_aload_n C.1 C.2.1 dX0_queueEnds_18 rfl (lv_at hl 0 rfl) ?_
    obtain ⟨r_1, er_1, hE⟩ := cl_e hE
    refine gf_X0_22 C hW k_x0 er_1 dX0_queueEnds_19 (fun k_r_1 => ?_)
    refine lv_iload_n C.1 C.2.1 dX0_queueEnds_22 rfl (lv_at hl 1 rfl) ?_
    refine lv_iconst (v := (1 : Int32)) C.1 C.2.1 dX0_queueEnds_23 (by decide) ?_
    refine lv_iadd C.1 C.2.1 dX0_queueEnds_24 ?_
    obtain ⟨g_2, hE⟩ := gd_e hE
    refine y_iald C hW k_r_1 g_2 dX0_queueEnds_25 ?_
    refine lv_icmp_ge (tgt := 189) C.1 C.2.1 dX0_queueEnds_26 (by decide) (fun c_3 => ?_) (fun c_3 => ?_)
    · have hE := br_p hE c_3
      obtain ⟨v_4, ev_4, hE⟩ := nm_e2 hE
      refine lv_iinc (v := v_4) (lv' := [(1, .int v_4), (0, .ref x0), (2, .int x2)]) C.1 C.2.1 dX0_queueEnds_189 hl (k := 1) rfl (by rw [ev_4]; rfl) (by decide) rfl (fun ls hl => ?_)
      refine lv_goto (tgt := 2) C.1 C.2.1 dX0_queueEnds_192 (by decide) ?_
      exact hk_2 _ _ _ _ _ k_x0 hkm hW hZ _ (lv_sub hl [1, 0] rfl) hE
    · have hE := br_n hE c_3
      refine lv_aload_n C.1 C.2.1 dX0_queueEnds_29 rfl (lv_at hl 0 rfl) ?_
      obtain ⟨r_5, er_5, hE⟩ := cl_e hE
      refine gf_X0_31 C hW k_x0 er_5 dX0_queueEnds_30 (fun k_r_5 => ?_)
      refine lv_iload_n C.1 C.2.1 dX0_queueEnds_33 rfl (lv_at hl 2 rfl) ?_
      obtain ⟨g_6, hE⟩ := gd_e hE
      refine y_iald C hW k_r_5 g_6 dX0_queueEnds_34 ?_
      refine lv_ldc (v := (3000000 : Int32)) C.1 C.2.1 C.2.2.2.1 (C.2.2.2.2.1 _ m_1664) dX0_queueEnds_35 ?_
      refine lv_icmp_ne (tgt := 45) C.1 C.2.1 dX0_queueEnds_37 (by decide) (fun c_7 => ?_) (fun c_7 => ?_)
      · have hE := br_n hE c_7
        exact bX0_queueEnds_45 C hk_2 hk_17 k_x0 hkm hW hZ _ (lv_sub hl [0, 1, 2] rfl) hE
      · have hE := br_p hE c_7
        refine lv_aload_n C.1 C.2.1 dX0_queueEnds_40 rfl (lv_at hl 0 rfl) ?_
        refine lv_iload_n C.1 C.2.1 dX0_queueEnds_41 rfl (lv_at hl 2 rfl) ?_
        obtain ⟨o_8, eo_8, hE⟩ := cl_e hE
        refine x_kV (o := o_8) (z_runV (As := [.int x2]) (rest := []) C (ct_X0_settleCount l X k_x0 eo_8) cw_X0_206 hW hZ k_x0 (by decide) rfl rfl rfl hl.1 (Nat.le_of_ble_eq_true rfl) rfl dX0_queueEnds_42 ⟨Nat.le_of_ble_eq_true rfl, Nat.le_of_ble_eq_true rfl⟩ ⟨Nat.le_refl _, Nat.le_refl _⟩) hZ (fun _ _ hW km hZ => ?_)
        replace hkm := hkm.tr km
        replace k_x0 := km.at k_x0 (by decide)
        exact bX0_queueEnds_45 C hk_2 hk_17 k_x0 hkm hW hZ _ (lv_sub hl [0, 1, 2] rfl) hE
set_option maxRecDepth 20000 in
theorem bX0_queueEnds_2 {p : Program} {l : Launch} {e : Env} {s : State} {m : MethodId} {args : Array Value} {below : List Frame} {meth : Method} {c : Code} {X : Ec} {h0 : Hp} {o : Hp} {F : Nat} (C : Cx X p s m args meth c RX0 cX0_queueEnds 4 none "queueEnds") : ∀ (f : Nat) {h : Hp} {x0 : Nat} {x1 : Int32} {H : Heap} {locs : List Loc} (k_x0 : hK h x0 = 0), Km h0 h → Wx X h H → va_S (aA (eB X)) s.heap H locs → ∀ (ls : Array Slot), lv_has ls 4 [(0, .ref x0), (1, .int x1)] → sX0_queueEnds_2 F f h x0 x1 = some o → W p l e (rm 3 75) s m args below meth c H locs 0 0 (MQ below (QV X h0 o) args s 0 0 (aA (eB X))) (F0 m 2 ls []) := by
  intro f
  induction f with
  | zero =>
    intro h x0 x1 H locs k_x0 hkm hW hZ ls hl hE
    rw [sX0_queueEnds_2] at hE
    cases hE
  | succ f ih =>
    intro h x0 x1 H locs k_x0 hkm hW hZ ls hl hE
    rw [sX0_queueEnds_2] at hE
    have hk_2 : ∀ (h : Hp) (x0 : Nat) (x1 : Int32) (H : Heap) (locs : List Loc), hK h x0 = 0 → Km h0 h → Wx X h H → va_S (aA (eB X)) s.heap H locs → ∀ (ls : Array Slot), lv_has ls 4 [(0, .ref x0), (1, .int x1)] → sX0_queueEnds_2 F f h x0 x1 = some o → W p l e (rm 3 75) s m args below meth c H locs 0 0 (MQ below (QV X h0 o) args s 0 0 (aA (eB X))) (F0 m 2 ls []) := fun h x0 x1 H locs k_x0 a b c ls hl hE => ih k_x0 a b c ls hl hE
    refine lv_iload_n C.1 C.2.1 dX0_queueEnds_2 rfl (lv_at hl 1 rfl) ?_
    refine lv_aload_n C.1 C.2.1 dX0_queueEnds_3 rfl (lv_at hl 0 rfl) ?_
    refine gf_X0_129 C hW k_x0 dX0_queueEnds_4 ?_
    refine lv_icmp_ge (tgt := 195) C.1 C.2.1 dX0_queueEnds_7 (by decide) (fun c_1 => ?_) (fun c_1 => ?_)
    · have hE := br_p hE c_1
      exact x_vret C rfl hW hZ hkm hE dX0_queueEnds_195
    · have hE := br_n hE c_1
      refine lv_aload_n C.1 C.2.1 dX0_queueEnds_10 rfl (lv_at hl 0 rfl) ?_
      obtain ⟨r_2, er_2, hE⟩ := cl_e hE
      refine gf_X0_22 C hW k_x0 er_2 dX0_queueEnds_11 (fun k_r_2 => ?_)
      refine lv_iload_n C.1 C.2.1 dX0_queueEnds_14 rfl (lv_at hl 1 rfl) ?_
      obtain ⟨g_3, hE⟩ := gd_e hE
      refine y_iald C hW k_r_2 g_3 dX0_queueEnds_15 ?_
      obtain ⟨v_4, ev_4, hE⟩ := nm_e2 hE
      refine x_nmI ev_4 ?_
      refine lv_istore_n (lv' := [(2, .int v_4), (0, .ref x0), (1, .int x1)]) C.1 C.2.1 dX0_queueEnds_16 rfl hl (by decide) rfl (fun ls hl => ?_)
      exact bX0_queueEnds_17 C hk_2 F k_x0 hkm hW hZ _ (lv_sub hl [1, 2, 0] rfl) hE
set_option maxRecDepth 20000 in
theorem ct_X0_queueEnds (l : Launch) (X : Ec) (F : Nat) {h : Hp} {x0 : Nat} {o : Hp} (k_x0 : hK h x0 = 0) (hE : sX0_queueEnds F h x0 = some o) : MetV l yX0_queueEnds cX0_queueEnds 4 none 3 75 X [.ref x0] h o := by
  refine x_met (by decide) (Nat.le_of_ble_eq_true rfl) ?_
  intro p e s m below meth c ls C hl hW hZ
  have hl : lv_has ls 4 [(0, .ref x0)] := hl
  have hkm : Km h h := Km.rf h
  refine lv_iconst (v := (0 : Int32)) C.1 C.2.1 dX0_queueEnds_0 (by decide) ?_
  refine lv_istore_n (lv' := [(1, .int (0 : Int32)), (0, .ref x0)]) C.1 C.2.1 dX0_queueEnds_1 rfl hl (by decide) rfl (fun ls hl => ?_)
  exact bX0_queueEnds_2 C F k_x0 hkm hW hZ _ (lv_sub hl [1, 0] rfl) hE
theorem dX0_setOf_0 : decode cX0_setOf 0 = .ok (.iconst 0, 1) := by decide +kernel
theorem dX0_setOf_1 : decode cX0_setOf 1 = .ok (.istore_n 2, 1) := by decide +kernel
theorem dX0_setOf_2 : decode cX0_setOf 2 = .ok (.aload_n 0, 1) := by decide +kernel
theorem dX0_setOf_3 : decode cX0_setOf 3 = .ok (.getfield 129, 3) := by decide +kernel
theorem dX0_setOf_6 : decode cX0_setOf 6 = .ok (.iconst 1, 1) := by decide +kernel
theorem dX0_setOf_7 : decode cX0_setOf 7 = .ok (.isub, 1) := by decide +kernel
theorem dX0_setOf_8 : decode cX0_setOf 8 = .ok (.istore_n 3, 1) := by decide +kernel
theorem dX0_setOf_9 : decode cX0_setOf 9 = .ok (.iload_n 2, 1) := by decide +kernel
theorem dX0_setOf_10 : decode cX0_setOf 10 = .ok (.iload_n 3, 1) := by decide +kernel
theorem dX0_setOf_11 : decode cX0_setOf 11 = .ok (.if_icmp .ge 37, 3) := by decide +kernel
theorem dX0_setOf_14 : decode cX0_setOf 14 = .ok (.iload_n 2, 1) := by decide +kernel
theorem dX0_setOf_15 : decode cX0_setOf 15 = .ok (.iload_n 3, 1) := by decide +kernel
theorem dX0_setOf_16 : decode cX0_setOf 16 = .ok (.iadd, 1) := by decide +kernel
theorem dX0_setOf_17 : decode cX0_setOf 17 = .ok (.iconst 1, 1) := by decide +kernel
theorem dX0_setOf_18 : decode cX0_setOf 18 = .ok (.iadd, 1) := by decide +kernel
theorem dX0_setOf_19 : decode cX0_setOf 19 = .ok (.iconst 1, 1) := by decide +kernel
theorem dX0_setOf_20 : decode cX0_setOf 20 = .ok (.ishr, 1) := by decide +kernel
theorem dX0_setOf_21 : decode cX0_setOf 21 = .ok (.istore 4, 2) := by decide +kernel
theorem dX0_setOf_23 : decode cX0_setOf 23 = .ok (.aload_n 0, 1) := by decide +kernel
theorem dX0_setOf_24 : decode cX0_setOf 24 = .ok (.getfield 22, 3) := by decide +kernel
theorem dX0_setOf_27 : decode cX0_setOf 27 = .ok (.iload 4, 2) := by decide +kernel
theorem dX0_setOf_29 : decode cX0_setOf 29 = .ok (.iaload, 1) := by decide +kernel
theorem dX0_setOf_30 : decode cX0_setOf 30 = .ok (.iload_n 1, 1) := by decide +kernel
theorem dX0_setOf_31 : decode cX0_setOf 31 = .ok (.if_icmp .gt 9, 3) := by decide +kernel
theorem dX0_setOf_34 : decode cX0_setOf 34 = .ok (.iload 4, 2) := by decide +kernel
theorem dX0_setOf_36 : decode cX0_setOf 36 = .ok (.istore_n 2, 1) := by decide +kernel
theorem dX0_setOf_37 : decode cX0_setOf 37 = .ok (.goto 8, 3) := by decide +kernel
theorem dX0_setOf_40 : decode cX0_setOf 40 = .ok (.iload 4, 2) := by decide +kernel
theorem dX0_setOf_42 : decode cX0_setOf 42 = .ok (.iconst 1, 1) := by decide +kernel
theorem dX0_setOf_43 : decode cX0_setOf 43 = .ok (.isub, 1) := by decide +kernel
theorem dX0_setOf_44 : decode cX0_setOf 44 = .ok (.istore_n 3, 1) := by decide +kernel
theorem dX0_setOf_45 : decode cX0_setOf 45 = .ok (.goto (-36), 3) := by decide +kernel
theorem dX0_setOf_48 : decode cX0_setOf 48 = .ok (.iload_n 2, 1) := by decide +kernel
theorem dX0_setOf_49 : decode cX0_setOf 49 = .ok (.ireturn, 1) := by decide +kernel
set_option maxRecDepth 20000 in
theorem moX0_setOf_45 {o : Int32 × Hp} {k_9 : Hp → Nat → Int32 → Int32 → Int32 → Option (Int32 × Hp)} {F : Nat} (mk_9 : ∀ (h : Hp) (x0 : Nat) (x1 : Int32) (x2 : Int32) (x3 : Int32), k_9 h x0 x1 x2 x3 = some o → Le h o.2) {h : Hp} {x0 : Nat} {x1 : Int32} {x2 : Int32} {x3 : Int32} (hE : sX0_setOf_45 F k_9 h x0 x1 x2 x3 = some o) : Le h o.2 := by
  exact mk_9 _ _ _ _ _ hE
set_option maxRecDepth 20000 in
theorem moX0_setOf_9 {o : Int32 × Hp} {F : Nat} : ∀ (f : Nat) {h : Hp} {x0 : Nat} {x1 : Int32} {x2 : Int32} {x3 : Int32}, sX0_setOf_9 F f h x0 x1 x2 x3 = some o → Le h o.2 := by
  intro f
  induction f with
  | zero =>
    intro h x0 x1 x2 x3 hE
    rw [sX0_setOf_9] at hE
    cases hE
  | succ f ih =>
    intro h x0 x1 x2 x3 hE
    rw [sX0_setOf_9] at hE
    have mk_9 : ∀ (h : Hp) (x0 : Nat) (x1 : Int32) (x2 : Int32) (x3 : Int32), sX0_setOf_9 F f h x0 x1 x2 x3 = some o → Le h o.2 := fun h x0 x1 x2 x3 hE => ih hE
    rcases br_e hE with ⟨_, hE⟩ | ⟨_, hE⟩
    · exact le_some2 hE
    · obtain ⟨v_2, ev_2, hE⟩ := nm_e2 hE
      obtain ⟨r_3, er_3, hE⟩ := cl_e hE
      obtain ⟨g_4, hE⟩ := gd_e hE
      rcases br_e hE with ⟨_, hE⟩ | ⟨_, hE⟩
      · obtain ⟨v_6, ev_6, hE⟩ := nm_e2 hE
        exact moX0_setOf_45 mk_9 hE
      · exact moX0_setOf_45 mk_9 hE
set_option maxRecDepth 20000 in
theorem moX0_setOf {o : Int32 × Hp} {F : Nat} {h : Hp} {x0 : Nat} {x1 : Int32} (hE : sX0_setOf F h x0 x1 = some o) : Le h o.2 := by
  obtain ⟨v_1, ev_1, hE⟩ := nm_e2 hE
  exact moX0_setOf_9 _ hE
set_option maxRecDepth 20000 in
theorem bX0_setOf_45 {p : Program} {l : Launch} {e : Env} {s : State} {m : MethodId} {args : Array Value} {below : List Frame} {meth : Method} {c : Code} {X : Ec} {h0 : Hp} {o : Int32 × Hp} {k_9 : Hp → Nat → Int32 → Int32 → Int32 → Option (Int32 × Hp)} {F : Nat} (C : Cx X p s m args meth c RX0 cX0_setOf 5 (some .int) "setOf") (hk_9 : ∀ (h : Hp) (x0 : Nat) (x1 : Int32) (x2 : Int32) (x3 : Int32) (H : Heap) (locs : List Loc), hK h x0 = 0 → Km h0 h → Wx X h H → va_S (aA (eB X)) s.heap H locs → ∀ (ls : Array Slot), lv_has ls 5 [(0, .ref x0), (1, .int x1), (2, .int x2), (3, .int x3)] → k_9 h x0 x1 x2 x3 = some o → W p l e (rm 0 0) s m args below meth c H locs 0 0 (MQ below (QI X h0 o.1 o.2) args s 0 0 (aA (eB X))) (F0 m 9 ls [])) {h : Hp} {x0 : Nat} {x1 : Int32} {x2 : Int32} {x3 : Int32} {H : Heap} {locs : List Loc} (k_x0 : hK h x0 = 0) (hkm : Km h0 h) (hW : Wx X h H) (hZ : va_S (aA (eB X)) s.heap H locs) (ls : Array Slot) (hl : lv_has ls 5 [(0, .ref x0), (1, .int x1), (2, .int x2), (3, .int x3)]) (hE : sX0_setOf_45 F k_9 h x0 x1 x2 x3 = some o) : W p l e (rm 0 0) s m args below meth c H locs 0 0 (MQ below (QI X h0 o.1 o.2) args s 0 0 (aA (eB X))) (F0 m 45 ls []) := by
  refine lv_goto (tgt := 9) C.1 C.2.1 dX0_setOf_45 (by decide) ?_
  exact hk_9 _ _ _ _ _ _ _ k_x0 hkm hW hZ _ (lv_sub hl [0, 1, 2, 3] rfl) hE
set_option maxRecDepth 20000 in
theorem bX0_setOf_9 {p : Program} {l : Launch} {e : Env} {s : State} {m : MethodId} {args : Array Value} {below : List Frame} {meth : Method} {c : Code} {X : Ec} {h0 : Hp} {o : Int32 × Hp} {F : Nat} (C : Cx X p s m args meth c RX0 cX0_setOf 5 (some .int) "setOf") : ∀ (f : Nat) {h : Hp} {x0 : Nat} {x1 : Int32} {x2 : Int32} {x3 : Int32} {H : Heap} {locs : List Loc} (k_x0 : hK h x0 = 0), Km h0 h → Wx X h H → va_S (aA (eB X)) s.heap H locs → ∀ (ls : Array Slot), lv_has ls 5 [(0, .ref x0), (1, .int x1), (2, .int x2), (3, .int x3)] → sX0_setOf_9 F f h x0 x1 x2 x3 = some o → W p l e (rm 0 0) s m args below meth c H locs 0 0 (MQ below (QI X h0 o.1 o.2) args s 0 0 (aA (eB X))) (F0 m 9 ls []) := by
  intro f
  induction f with
  | zero =>
    intro h x0 x1 x2 x3 H locs k_x0 hkm hW hZ ls hl hE
    rw [sX0_setOf_9] at hE
    cases hE
  | succ f ih =>
    intro h x0 x1 x2 x3 H locs k_x0 hkm hW hZ ls hl hE
    rw [sX0_setOf_9] at hE
    have hk_9 : ∀ (h : Hp) (x0 : Nat) (x1 : Int32) (x2 : Int32) (x3 : Int32) (H : Heap) (locs : List Loc), hK h x0 = 0 → Km h0 h → Wx X h H → va_S (aA (eB X)) s.heap H locs → ∀ (ls : Array Slot), lv_has ls 5 [(0, .ref x0), (1, .int x1), (2, .int x2), (3, .int x3)] → sX0_setOf_9 F f h x0 x1 x2 x3 = some o → W p l e (rm 0 0) s m args below meth c H locs 0 0 (MQ below (QI X h0 o.1 o.2) args s 0 0 (aA (eB X))) (F0 m 9 ls []) := fun h x0 x1 x2 x3 H locs k_x0 a b c ls hl hE => ih k_x0 a b c ls hl hE
    refine lv_iload_n C.1 C.2.1 dX0_setOf_9 rfl (lv_at hl 2 rfl) ?_
    refine lv_iload_n C.1 C.2.1 dX0_setOf_10 rfl (lv_at hl 3 rfl) ?_
    refine lv_icmp_ge (tgt := 48) C.1 C.2.1 dX0_setOf_11 (by decide) (fun c_1 => ?_) (fun c_1 => ?_)
    · have hE := br_p hE c_1
      refine lv_iload_n C.1 C.2.1 dX0_setOf_48 rfl (lv_at hl 2 rfl) ?_
      exact x_iret C rfl rfl hW hZ hkm hE dX0_setOf_49
    · have hE := br_n hE c_1
      refine lv_iload_n C.1 C.2.1 dX0_setOf_14 rfl (lv_at hl 2 rfl) ?_
      refine lv_iload_n C.1 C.2.1 dX0_setOf_15 rfl (lv_at hl 3 rfl) ?_
      refine lv_iadd C.1 C.2.1 dX0_setOf_16 ?_
      refine lv_iconst (v := (1 : Int32)) C.1 C.2.1 dX0_setOf_17 (by decide) ?_
      refine lv_iadd C.1 C.2.1 dX0_setOf_18 ?_
      refine lv_iconst (v := (1 : Int32)) C.1 C.2.1 dX0_setOf_19 (by decide) ?_
      refine lv_ishr C.1 C.2.1 dX0_setOf_20 ?_
      obtain ⟨v_2, ev_2, hE⟩ := nm_e2 hE
      refine x_nmI ev_2 ?_
      refine lv_istore (lv' := [(4, .int v_2), (0, .ref x0), (1, .int x1), (2, .int x2), (3, .int x3)]) C.1 C.2.1 dX0_setOf_21 hl (by decide) rfl (fun ls hl => ?_)
      refine lv_aload_n C.1 C.2.1 dX0_setOf_23 rfl (lv_at hl 1 rfl) ?_
      obtain ⟨r_3, er_3, hE⟩ := cl_e hE
      refine gf_X0_22 C hW k_x0 er_3 dX0_setOf_24 (fun k_r_3 => ?_)
      refine lv_iload C.1 C.2.1 dX0_setOf_27 (lv_at hl 0 rfl) ?_
      obtain ⟨g_4, hE⟩ := gd_e hE
      refine y_iald C hW k_r_3 g_4 dX0_setOf_29 ?_
      refine lv_iload_n C.1 C.2.1 dX0_setOf_30 rfl (lv_at hl 2 rfl) ?_
      refine lv_icmp_gt (tgt := 40) C.1 C.2.1 dX0_setOf_31 (by decide) (fun c_5 => ?_) (fun c_5 => ?_)
      · have hE := br_p hE c_5
        refine lv_iload C.1 C.2.1 dX0_setOf_40 (lv_at hl 0 rfl) ?_
        refine lv_iconst (v := (1 : Int32)) C.1 C.2.1 dX0_setOf_42 (by decide) ?_
        refine lv_isub C.1 C.2.1 dX0_setOf_43 ?_
        obtain ⟨v_6, ev_6, hE⟩ := nm_e2 hE
        refine x_nmI ev_6 ?_
        refine lv_istore_n (lv' := [(3, .int v_6), (4, .int v_2), (0, .ref x0), (1, .int x1), (2, .int x2)]) C.1 C.2.1 dX0_setOf_44 rfl hl (by decide) rfl (fun ls hl => ?_)
        exact bX0_setOf_45 C hk_9 k_x0 hkm hW hZ _ (lv_sub hl [2, 3, 4, 0] rfl) hE
      · have hE := br_n hE c_5
        refine lv_iload C.1 C.2.1 dX0_setOf_34 (lv_at hl 0 rfl) ?_
        refine lv_istore_n (lv' := [(2, .int v_2), (4, .int v_2), (0, .ref x0), (1, .int x1), (3, .int x3)]) C.1 C.2.1 dX0_setOf_36 rfl hl (by decide) rfl (fun ls hl => ?_)
        refine lv_goto (tgt := 45) C.1 C.2.1 dX0_setOf_37 (by decide) ?_
        exact bX0_setOf_45 C hk_9 k_x0 hkm hW hZ _ (lv_sub hl [2, 3, 0, 4] rfl) hE
set_option maxRecDepth 20000 in
theorem ct_X0_setOf (l : Launch) (X : Ec) (F : Nat) {h : Hp} {x0 : Nat} {x1 : Int32} {o : Int32 × Hp} (k_x0 : hK h x0 = 0) (hE : sX0_setOf F h x0 x1 = some o) : MetI l yX0_setOf cX0_setOf 5 (some .int) 0 0 X [.ref x0, .int x1] h o := by
  refine x_met (by decide) (Nat.le_of_ble_eq_true rfl) ?_
  intro p e s m below meth c ls C hl hW hZ
  have hl : lv_has ls 5 [(0, .ref x0), (1, .int x1)] := hl
  have hkm : Km h h := Km.rf h
  refine lv_iconst (v := (0 : Int32)) C.1 C.2.1 dX0_setOf_0 (by decide) ?_
  refine lv_istore_n (lv' := [(2, .int (0 : Int32)), (0, .ref x0), (1, .int x1)]) C.1 C.2.1 dX0_setOf_1 rfl hl (by decide) rfl (fun ls hl => ?_)
  refine lv_aload_n C.1 C.2.1 dX0_setOf_2 rfl (lv_at hl 1 rfl) ?_
  refine gf_X0_129 C hW k_x0 dX0_setOf_3 ?_
  refine lv_iconst (v := (1 : Int32)) C.1 C.2.1 dX0_setOf_6 (by decide) ?_
  refine lv_isub C.1 C.2.1 dX0_setOf_7 ?_
  obtain ⟨v_1, ev_1, hE⟩ := nm_e2 hE
  refine x_nmI ev_1 ?_
  refine lv_istore_n (lv' := [(3, .int v_1), (2, .int (0 : Int32)), (0, .ref x0), (1, .int x1)]) C.1 C.2.1 dX0_setOf_8 rfl hl (by decide) rfl (fun ls hl => ?_)
  exact bX0_setOf_9 C F k_x0 hkm hW hZ _ (lv_sub hl [2, 3, 1, 0] rfl) hE
set_option maxRecDepth 100000 in
theorem ms_112 : Cond.selects RX0 yX0_setOf yX0_setOf ∈ W0 := w0_in (List.mem_append_left _ (List.mem_of_getElem? (i := 112) rfl)) rfl
set_option maxRecDepth 100000 in
theorem ms_110 : Cond.selects RX0 yX0_queueEnds yX0_queueEnds ∈ W0 := w0_in (List.mem_append_left _ (List.mem_of_getElem? (i := 110) rfl)) rfl
set_option maxRecDepth 100000 in
theorem ms_98 : Cond.selects RX0 yX0_countAll yX0_countAll ∈ W0 := w0_in (List.mem_append_left _ (List.mem_of_getElem? (i := 98) rfl)) rfl
set_option maxRecDepth 100000 in
theorem ms_94 : Cond.selects RX0 yX0_markAll yX0_markAll ∈ W0 := w0_in (List.mem_append_left _ (List.mem_of_getElem? (i := 94) rfl)) rfl
set_option maxRecDepth 100000 in
theorem ms_93 : Cond.selects RX0 yX0_makeRoom yX0_makeRoom ∈ W0 := w0_in (List.mem_append_left _ (List.mem_of_getElem? (i := 93) rfl)) rfl
set_option maxRecDepth 100000 in
theorem ms_89 : Cond.selects RX0 yX0_gatherSets yX0_gatherSets ∈ W0 := w0_in (List.mem_append_left _ (List.mem_of_getElem? (i := 89) rfl)) rfl
set_option maxRecDepth 100000 in
theorem m_468 : Cond.fieldLink RX0 77 (TX0 10).1 (TX0 10).2.1 (TX0 10).2.2.1 ∈ W0 := w0_in (List.mem_append_right _ (List.mem_of_getElem? (i := 468) rfl)) rfl
set_option maxRecDepth 100000 in
theorem m_1612 : Cond.methodLink RX0 81 yX0_gatherSets ∈ W0 := w0_in (List.mem_append_right _ (List.mem_of_getElem? (i := 1612) rfl)) rfl
set_option maxRecDepth 100000 in
theorem m_1614 : Cond.instanceMethod yX0_gatherSets ∈ W0 := w0_in (List.mem_append_right _ (List.mem_of_getElem? (i := 1614) rfl)) rfl
set_option maxRecDepth 100000 in
theorem m_1615 : Cond.code yX0_gatherSets cX0_gatherSets 2 (some .boolean) ∈ W0 := w0_in (List.mem_append_right _ (List.mem_of_getElem? (i := 1615) rfl)) rfl
set_option maxRecDepth 100000 in
theorem m_1639 : Cond.methodLink RX0 85 yX0_makeRoom ∈ W0 := w0_in (List.mem_append_right _ (List.mem_of_getElem? (i := 1639) rfl)) rfl
set_option maxRecDepth 100000 in
theorem m_1641 : Cond.instanceMethod yX0_makeRoom ∈ W0 := w0_in (List.mem_append_right _ (List.mem_of_getElem? (i := 1641) rfl)) rfl
set_option maxRecDepth 100000 in
theorem m_1642 : Cond.code yX0_makeRoom cX0_makeRoom 1 none ∈ W0 := w0_in (List.mem_append_right _ (List.mem_of_getElem? (i := 1642) rfl)) rfl
set_option maxRecDepth 100000 in
theorem m_1644 : Cond.methodLink RX0 94 yX0_markAll ∈ W0 := w0_in (List.mem_append_right _ (List.mem_of_getElem? (i := 1644) rfl)) rfl
set_option maxRecDepth 100000 in
theorem m_1646 : Cond.instanceMethod yX0_markAll ∈ W0 := w0_in (List.mem_append_right _ (List.mem_of_getElem? (i := 1646) rfl)) rfl
set_option maxRecDepth 100000 in
theorem m_1647 : Cond.code yX0_markAll cX0_markAll 7 none ∈ W0 := w0_in (List.mem_append_right _ (List.mem_of_getElem? (i := 1647) rfl)) rfl
set_option maxRecDepth 100000 in
theorem m_1672 : Cond.methodLink RX0 101 yX0_countAll ∈ W0 := w0_in (List.mem_append_right _ (List.mem_of_getElem? (i := 1672) rfl)) rfl
set_option maxRecDepth 100000 in
theorem m_1674 : Cond.instanceMethod yX0_countAll ∈ W0 := w0_in (List.mem_append_right _ (List.mem_of_getElem? (i := 1674) rfl)) rfl
set_option maxRecDepth 100000 in
theorem m_1675 : Cond.code yX0_countAll cX0_countAll 7 none ∈ W0 := w0_in (List.mem_append_right _ (List.mem_of_getElem? (i := 1675) rfl)) rfl
set_option maxRecDepth 100000 in
theorem m_1725 : Cond.methodLink RX0 104 yX0_queueEnds ∈ W0 := w0_in (List.mem_append_right _ (List.mem_of_getElem? (i := 1725) rfl)) rfl
set_option maxRecDepth 100000 in
theorem m_1727 : Cond.instanceMethod yX0_queueEnds ∈ W0 := w0_in (List.mem_append_right _ (List.mem_of_getElem? (i := 1727) rfl)) rfl
set_option maxRecDepth 100000 in
theorem m_1728 : Cond.code yX0_queueEnds cX0_queueEnds 4 none ∈ W0 := w0_in (List.mem_append_right _ (List.mem_of_getElem? (i := 1728) rfl)) rfl
set_option maxRecDepth 100000 in
theorem m_1733 : Cond.methodLink RX0 108 yX0_setOf ∈ W0 := w0_in (List.mem_append_right _ (List.mem_of_getElem? (i := 1733) rfl)) rfl
set_option maxRecDepth 100000 in
theorem m_1735 : Cond.instanceMethod yX0_setOf ∈ W0 := w0_in (List.mem_append_right _ (List.mem_of_getElem? (i := 1735) rfl)) rfl
set_option maxRecDepth 100000 in
theorem m_1736 : Cond.code yX0_setOf cX0_setOf 5 (some .int) ∈ W0 := w0_in (List.mem_append_right _ (List.mem_of_getElem? (i := 1736) rfl)) rfl
section
variable {p : Program} {l : Launch} {e : Env} {R : Room} {s : State} {m : MethodId} {args : Array Value} {below : List Frame} {meth : Method} {c : Code} {H : Heap} {locs : List Loc} {cells slots : Nat} {Q : State → Prop}
variable {cc : ByteArray} {pc : Nat} {ls : Array Slot} {rest : List Value} {X : Ec} {h h1 : Hp} {nL : Nat} {rt : Option FieldType} {mn : String}
theorem pf_X0_77 {a : Nat} {v : Int32} (C : Cx X p s m args meth c RX0 cc nL rt mn) (hW : Wx X h H) (hZ : va_S (aA (eB X)) s.heap H locs) (ha : hK h a = 0) (hn : narrow .boolean (.int v) = .int v) (eh : h1 = wI h a 10 v) (hdg : decode cc pc = .ok (.putfield 77, 3)) (kk : ∀ (H1 : Heap) (locs1 : List Loc), Wx X h1 H1 → Km h h1 → va_S (aA (eB X)) s.heap H1 locs1 → W p l e R s m args below meth c H1 locs1 cells slots Q (F0 m (pc + 3) ls rest)) : W p l e R s m args below meth c H locs cells slots Q (F0 m pc ls (.int v :: .ref a :: rest)) :=
  y_puti (ty := .boolean) C hW hZ ha i_X0 tyX0 tyX0_ok nmX0 (by decide) rfl rfl (by decide) m_468 rfl (by decide +kernel) rfl hn (fitZ hn) eh hdg kk
theorem pf_X0_98 {a : Nat} {v : Int32} (C : Cx X p s m args meth c RX0 cc nL rt mn) (hW : Wx X h H) (hZ : va_S (aA (eB X)) s.heap H locs) (ha : hK h a = 0) (eh : h1 = wI h a 17 v) (hdg : decode cc pc = .ok (.putfield 98, 3)) (kk : ∀ (H1 : Heap) (locs1 : List Loc), Wx X h1 H1 → Km h h1 → va_S (aA (eB X)) s.heap H1 locs1 → W p l e R s m args below meth c H1 locs1 cells slots Q (F0 m (pc + 3) ls rest)) : W p l e R s m args below meth c H locs cells slots Q (F0 m pc ls (.int v :: .ref a :: rest)) :=
  y_puti (ty := .int) C hW hZ ha i_X0 tyX0 tyX0_ok nmX0 (by decide) rfl rfl (by decide) m_477 rfl (by decide +kernel) rfl rfl rfl eh hdg kk
theorem pf_X0_88 {a : Nat} {v : Int32} (C : Cx X p s m args meth c RX0 cc nL rt mn) (hW : Wx X h H) (hZ : va_S (aA (eB X)) s.heap H locs) (ha : hK h a = 0) (eh : h1 = wI h a 15 v) (hdg : decode cc pc = .ok (.putfield 88, 3)) (kk : ∀ (H1 : Heap) (locs1 : List Loc), Wx X h1 H1 → Km h h1 → va_S (aA (eB X)) s.heap H1 locs1 → W p l e R s m args below meth c H1 locs1 cells slots Q (F0 m (pc + 3) ls rest)) : W p l e R s m args below meth c H locs cells slots Q (F0 m pc ls (.int v :: .ref a :: rest)) :=
  y_puti (ty := .int) C hW hZ ha i_X0 tyX0 tyX0_ok nmX0 (by decide) rfl rfl (by decide) m_475 rfl (by decide +kernel) rfl rfl rfl eh hdg kk
end
theorem cw_X0_108 : cwd RX0 108 yX0_setOf cX0_setOf 5 (some .int) false 1 := ⟨m_1736, m_1733, m_13, ⟨m_1735, ms_112⟩, by decide, by decide, by decide +kernel⟩
theorem cw_X0_104 : cwd RX0 104 yX0_queueEnds cX0_queueEnds 4 none false 0 := ⟨m_1728, m_1725, m_13, ⟨m_1727, ms_110⟩, by decide, by decide, by decide +kernel⟩
theorem cw_X0_101 : cwd RX0 101 yX0_countAll cX0_countAll 7 none false 0 := ⟨m_1675, m_1672, m_13, ⟨m_1674, ms_98⟩, by decide, by decide, by decide +kernel⟩
theorem cw_X0_94 : cwd RX0 94 yX0_markAll cX0_markAll 7 none false 0 := ⟨m_1647, m_1644, m_13, ⟨m_1646, ms_94⟩, by decide, by decide, by decide +kernel⟩
theorem cw_X0_85 : cwd RX0 85 yX0_makeRoom cX0_makeRoom 1 none false 0 := ⟨m_1642, m_1639, m_13, ⟨m_1641, ms_93⟩, by decide, by decide, by decide +kernel⟩
theorem cw_X0_81 : cwd RX0 81 yX0_gatherSets cX0_gatherSets 2 (some .boolean) false 0 := ⟨m_1615, m_1612, m_13, ⟨m_1614, ms_89⟩, by decide, by decide, by decide +kernel⟩
theorem dX0_run_0 : decode cX0_run 0 = .ok (.aload_n 0, 1) := by decide +kernel
theorem dX0_run_1 : decode cX0_run 1 = .ok (.iconst 0, 1) := by decide +kernel
theorem dX0_run_2 : decode cX0_run 2 = .ok (.putfield 77, 3) := by decide +kernel
theorem dX0_run_5 : decode cX0_run 5 = .ok (.aload_n 0, 1) := by decide +kernel
theorem dX0_run_6 : decode cX0_run 6 = .ok (.invokevirtual 81, 3) := by decide +kernel
theorem dX0_run_9 : decode cX0_run 9 = .ok (.ifCond .ne 5, 3) := by decide +kernel
theorem dX0_run_12 : decode cX0_run 12 = .ok (.iconst 0, 1) := by decide +kernel
theorem dX0_run_13 : decode cX0_run 13 = .ok (.ireturn, 1) := by decide +kernel
theorem dX0_run_14 : decode cX0_run 14 = .ok (.aload_n 0, 1) := by decide +kernel
theorem dX0_run_15 : decode cX0_run 15 = .ok (.invokevirtual 85, 3) := by decide +kernel
theorem dX0_run_18 : decode cX0_run 18 = .ok (.aload_n 0, 1) := by decide +kernel
theorem dX0_run_19 : decode cX0_run 19 = .ok (.aload_n 0, 1) := by decide +kernel
theorem dX0_run_20 : decode cX0_run 20 = .ok (.getfield 74, 3) := by decide +kernel
theorem dX0_run_23 : decode cX0_run 23 = .ok (.putfield 88, 3) := by decide +kernel
theorem dX0_run_26 : decode cX0_run 26 = .ok (.aload_n 0, 1) := by decide +kernel
theorem dX0_run_27 : decode cX0_run 27 = .ok (.iconst 0, 1) := by decide +kernel
theorem dX0_run_28 : decode cX0_run 28 = .ok (.putfield 91, 3) := by decide +kernel
theorem dX0_run_31 : decode cX0_run 31 = .ok (.aload_n 0, 1) := by decide +kernel
theorem dX0_run_32 : decode cX0_run 32 = .ok (.invokevirtual 94, 3) := by decide +kernel
theorem dX0_run_35 : decode cX0_run 35 = .ok (.aload_n 0, 1) := by decide +kernel
theorem dX0_run_36 : decode cX0_run 36 = .ok (.ldc 97, 2) := by decide +kernel
theorem dX0_run_38 : decode cX0_run 38 = .ok (.putfield 98, 3) := by decide +kernel
theorem dX0_run_41 : decode cX0_run 41 = .ok (.aload_n 0, 1) := by decide +kernel
theorem dX0_run_42 : decode cX0_run 42 = .ok (.invokevirtual 101, 3) := by decide +kernel
theorem dX0_run_45 : decode cX0_run 45 = .ok (.aload_n 0, 1) := by decide +kernel
theorem dX0_run_46 : decode cX0_run 46 = .ok (.invokevirtual 104, 3) := by decide +kernel
theorem dX0_run_49 : decode cX0_run 49 = .ok (.iconst 0, 1) := by decide +kernel
theorem dX0_run_50 : decode cX0_run 50 = .ok (.istore_n 1, 1) := by decide +kernel
theorem dX0_run_51 : decode cX0_run 51 = .ok (.iload_n 1, 1) := by decide +kernel
theorem dX0_run_52 : decode cX0_run 52 = .ok (.aload_n 0, 1) := by decide +kernel
theorem dX0_run_53 : decode cX0_run 53 = .ok (.getfield 91, 3) := by decide +kernel
theorem dX0_run_56 : decode cX0_run 56 = .ok (.if_icmp .ge 75, 3) := by decide +kernel
theorem dX0_run_59 : decode cX0_run 59 = .ok (.iload_n 1, 1) := by decide +kernel
theorem dX0_run_60 : decode cX0_run 60 = .ok (.ldc 107, 2) := by decide +kernel
theorem dX0_run_62 : decode cX0_run 62 = .ok (.if_icmp .ge 69, 3) := by decide +kernel
theorem dX0_run_65 : decode cX0_run 65 = .ok (.aload_n 0, 1) := by decide +kernel
theorem dX0_run_66 : decode cX0_run 66 = .ok (.getfield 37, 3) := by decide +kernel
theorem dX0_run_69 : decode cX0_run 69 = .ok (.iload_n 1, 1) := by decide +kernel
theorem dX0_run_70 : decode cX0_run 70 = .ok (.iaload, 1) := by decide +kernel
theorem dX0_run_71 : decode cX0_run 71 = .ok (.istore_n 2, 1) := by decide +kernel
theorem dX0_run_72 : decode cX0_run 72 = .ok (.aload_n 0, 1) := by decide +kernel
theorem dX0_run_73 : decode cX0_run 73 = .ok (.iload_n 2, 1) := by decide +kernel
theorem dX0_run_74 : decode cX0_run 74 = .ok (.invokevirtual 108, 3) := by decide +kernel
theorem dX0_run_77 : decode cX0_run 77 = .ok (.istore_n 3, 1) := by decide +kernel
theorem dX0_run_78 : decode cX0_run 78 = .ok (.aload_n 0, 1) := by decide +kernel
theorem dX0_run_79 : decode cX0_run 79 = .ok (.aload_n 0, 1) := by decide +kernel
theorem dX0_run_80 : decode cX0_run 80 = .ok (.getfield 31, 3) := by decide +kernel
theorem dX0_run_83 : decode cX0_run 83 = .ok (.iload_n 2, 1) := by decide +kernel
theorem dX0_run_84 : decode cX0_run 84 = .ok (.iaload, 1) := by decide +kernel
theorem dX0_run_85 : decode cX0_run 85 = .ok (.putfield 98, 3) := by decide +kernel
theorem dX0_run_88 : decode cX0_run 88 = .ok (.aload_n 0, 1) := by decide +kernel
theorem dX0_run_89 : decode cX0_run 89 = .ok (.aload_n 0, 1) := by decide +kernel
theorem dX0_run_90 : decode cX0_run 90 = .ok (.getfield 18, 3) := by decide +kernel
theorem dX0_run_93 : decode cX0_run 93 = .ok (.iload_n 3, 1) := by decide +kernel
theorem dX0_run_94 : decode cX0_run 94 = .ok (.iaload, 1) := by decide +kernel
theorem dX0_run_95 : decode cX0_run 95 = .ok (.iload_n 2, 1) := by decide +kernel
theorem dX0_run_96 : decode cX0_run 96 = .ok (.aload_n 0, 1) := by decide +kernel
theorem dX0_run_97 : decode cX0_run 97 = .ok (.getfield 22, 3) := by decide +kernel
theorem dX0_run_100 : decode cX0_run 100 = .ok (.iload_n 3, 1) := by decide +kernel
theorem dX0_run_101 : decode cX0_run 101 = .ok (.iaload, 1) := by decide +kernel
theorem dX0_run_102 : decode cX0_run 102 = .ok (.isub, 1) := by decide +kernel
theorem dX0_run_103 : decode cX0_run 103 = .ok (.iconst 1, 1) := by decide +kernel
theorem dX0_run_104 : decode cX0_run 104 = .ok (.ishr, 1) := by decide +kernel
theorem dX0_run_105 : decode cX0_run 105 = .ok (.invokevirtual 111, 3) := by decide +kernel
theorem dX0_run_108 : decode cX0_run 108 = .ok (.ifCond .eq 17, 3) := by decide +kernel
theorem dX0_run_111 : decode cX0_run 111 = .ok (.aload_n 0, 1) := by decide +kernel
theorem dX0_run_112 : decode cX0_run 112 = .ok (.iload_n 2, 1) := by decide +kernel
theorem dX0_run_113 : decode cX0_run 113 = .ok (.aload_n 0, 1) := by decide +kernel
theorem dX0_run_114 : decode cX0_run 114 = .ok (.getfield 22, 3) := by decide +kernel
theorem dX0_run_117 : decode cX0_run 117 = .ok (.iload_n 3, 1) := by decide +kernel
theorem dX0_run_118 : decode cX0_run 118 = .ok (.iaload, 1) := by decide +kernel
theorem dX0_run_119 : decode cX0_run 119 = .ok (.isub, 1) := by decide +kernel
theorem dX0_run_120 : decode cX0_run 120 = .ok (.iconst 1, 1) := by decide +kernel
theorem dX0_run_121 : decode cX0_run 121 = .ok (.iand, 1) := by decide +kernel
theorem dX0_run_122 : decode cX0_run 122 = .ok (.invokevirtual 115, 3) := by decide +kernel
theorem dX0_run_125 : decode cX0_run 125 = .ok (.iinc 1 1, 3) := by decide +kernel
theorem dX0_run_128 : decode cX0_run 128 = .ok (.goto (-77), 3) := by decide +kernel
theorem dX0_run_131 : decode cX0_run 131 = .ok (.iconst 0, 1) := by decide +kernel
theorem dX0_run_132 : decode cX0_run 132 = .ok (.istore_n 1, 1) := by decide +kernel
theorem dX0_run_133 : decode cX0_run 133 = .ok (.iload_n 1, 1) := by decide +kernel
theorem dX0_run_134 : decode cX0_run 134 = .ok (.aload_n 0, 1) := by decide +kernel
theorem dX0_run_135 : decode cX0_run 135 = .ok (.getfield 119, 3) := by decide +kernel
theorem dX0_run_138 : decode cX0_run 138 = .ok (.l2i, 1) := by decide +kernel
theorem dX0_run_139 : decode cX0_run 139 = .ok (.if_icmp .ge 36, 3) := by decide +kernel
theorem dX0_run_142 : decode cX0_run 142 = .ok (.aload_n 0, 1) := by decide +kernel
theorem dX0_run_143 : decode cX0_run 143 = .ok (.getfield 31, 3) := by decide +kernel
theorem dX0_run_146 : decode cX0_run 146 = .ok (.iload_n 1, 1) := by decide +kernel
theorem dX0_run_147 : decode cX0_run 147 = .ok (.aload_n 0, 1) := by decide +kernel
theorem dX0_run_148 : decode cX0_run 148 = .ok (.getfield 31, 3) := by decide +kernel
theorem dX0_run_151 : decode cX0_run 151 = .ok (.iload_n 1, 1) := by decide +kernel
theorem dX0_run_152 : decode cX0_run 152 = .ok (.iaload, 1) := by decide +kernel
theorem dX0_run_153 : decode cX0_run 153 = .ok (.ldc 97, 2) := by decide +kernel
theorem dX0_run_155 : decode cX0_run 155 = .ok (.if_icmp .ne 7, 3) := by decide +kernel
theorem dX0_run_158 : decode cX0_run 158 = .ok (.iconst 0, 1) := by decide +kernel
theorem dX0_run_159 : decode cX0_run 159 = .ok (.goto 9, 3) := by decide +kernel
theorem dX0_run_162 : decode cX0_run 162 = .ok (.aload_n 0, 1) := by decide +kernel
theorem dX0_run_163 : decode cX0_run 163 = .ok (.getfield 31, 3) := by decide +kernel
theorem dX0_run_166 : decode cX0_run 166 = .ok (.iload_n 1, 1) := by decide +kernel
theorem dX0_run_167 : decode cX0_run 167 = .ok (.iaload, 1) := by decide +kernel
theorem dX0_run_168 : decode cX0_run 168 = .ok (.iastore, 1) := by decide +kernel
theorem dX0_run_169 : decode cX0_run 169 = .ok (.iinc 1 1, 3) := by decide +kernel
theorem dX0_run_172 : decode cX0_run 172 = .ok (.goto (-39), 3) := by decide +kernel
theorem dX0_run_175 : decode cX0_run 175 = .ok (.aload_n 0, 1) := by decide +kernel
theorem dX0_run_176 : decode cX0_run 176 = .ok (.iconst 1, 1) := by decide +kernel
theorem dX0_run_177 : decode cX0_run 177 = .ok (.putfield 77, 3) := by decide +kernel
theorem dX0_run_180 : decode cX0_run 180 = .ok (.iconst 1, 1) := by decide +kernel
theorem dX0_run_181 : decode cX0_run 181 = .ok (.ireturn, 1) := by decide +kernel
set_option maxRecDepth 20000 in
theorem moX0_run_168 {o : Int32 × Hp} {k_133 : Hp → Nat → Int32 → Option (Int32 × Hp)} {F : Nat} (mk_133 : ∀ (h : Hp) (x0 : Nat) (x1 : Int32), k_133 h x0 x1 = some o → Le h o.2) {h : Hp} {x0 : Nat} {x1 : Int32} {t0 : Int32} {t1 : Int32} {t2 : Nat} (hE : sX0_run_168 F k_133 h x0 x1 t0 t1 t2 = some o) : Le h o.2 := by
  obtain ⟨g_1, hE⟩ := gd_e hE
  obtain ⟨h_2, eh_2, hE⟩ := nm_e2 hE
  refine (le_I eh_2).tr ?_
  obtain ⟨v_3, ev_3, hE⟩ := nm_e2 hE
  exact mk_133 _ _ _ hE
set_option maxRecDepth 20000 in
theorem moX0_run_133 {o : Int32 × Hp} {F : Nat} : ∀ (f : Nat) {h : Hp} {x0 : Nat} {x1 : Int32}, sX0_run_133 F f h x0 x1 = some o → Le h o.2 := by
  intro f
  induction f with
  | zero =>
    intro h x0 x1 hE
    rw [sX0_run_133] at hE
    cases hE
  | succ f ih =>
    intro h x0 x1 hE
    rw [sX0_run_133] at hE
    have mk_133 : ∀ (h : Hp) (x0 : Nat) (x1 : Int32), sX0_run_133 F f h x0 x1 = some o → Le h o.2 := fun h x0 x1 hE => ih hE
    rcases br_e hE with ⟨_, hE⟩ | ⟨_, hE⟩
    · obtain ⟨h_2, eh_2, hE⟩ := nm_e2 hE
      refine (le_I eh_2).tr ?_
      exact le_some2 hE
    · obtain ⟨r_3, er_3, hE⟩ := cl_e hE
      obtain ⟨r_4, er_4, hE⟩ := cl_e hE
      obtain ⟨g_5, hE⟩ := gd_e hE
      rcases br_e hE with ⟨_, hE⟩ | ⟨_, hE⟩
      · exact moX0_run_168 mk_133 hE
      · obtain ⟨r_7, er_7, hE⟩ := cl_e hE
        obtain ⟨g_8, hE⟩ := gd_e hE
        exact moX0_run_168 mk_133 hE
set_option maxRecDepth 20000 in
theorem moX0_run_131 {o : Int32 × Hp} {F : Nat} {h : Hp} {x0 : Nat} (hE : sX0_run_131 F h x0 = some o) : Le h o.2 := by
  exact moX0_run_133 _ hE
set_option maxRecDepth 20000 in
theorem moX0_run_125 {o : Int32 × Hp} {k_51 : Hp → Nat → Int32 → Option (Int32 × Hp)} {F : Nat} (mk_51 : ∀ (h : Hp) (x0 : Nat) (x1 : Int32), k_51 h x0 x1 = some o → Le h o.2) {h : Hp} {x0 : Nat} {x1 : Int32} (hE : sX0_run_125 F k_51 h x0 x1 = some o) : Le h o.2 := by
  obtain ⟨v_1, ev_1, hE⟩ := nm_e2 hE
  exact mk_51 _ _ _ hE
set_option maxRecDepth 20000 in
theorem moX0_run_108 {o : Int32 × Hp} {k_51 : Hp → Nat → Int32 → Option (Int32 × Hp)} {F : Nat} (mk_51 : ∀ (h : Hp) (x0 : Nat) (x1 : Int32), k_51 h x0 x1 = some o → Le h o.2) {h : Hp} {x0 : Nat} {x1 : Int32} {x2 : Int32} {x3 : Int32} {t0 : Int32} (hE : sX0_run_108 F k_51 h x0 x1 x2 x3 t0 = some o) : Le h o.2 := by
  rcases br_e hE with ⟨_, hE⟩ | ⟨_, hE⟩
  · exact moX0_run_125 mk_51 hE
  · obtain ⟨r_2, er_2, hE⟩ := cl_e hE
    obtain ⟨g_3, hE⟩ := gd_e hE
    obtain ⟨o_4, eo_4, hE⟩ := cl_e hE
    refine (moX0_goBack eo_4).tr ?_
    exact moX0_run_125 mk_51 hE
set_option maxRecDepth 20000 in
theorem moX0_run_77 {o : Int32 × Hp} {k_51 : Hp → Nat → Int32 → Option (Int32 × Hp)} {F : Nat} (mk_51 : ∀ (h : Hp) (x0 : Nat) (x1 : Int32), k_51 h x0 x1 = some o → Le h o.2) {h : Hp} {x0 : Nat} {x1 : Int32} {x2 : Int32} {t0 : Int32} (hE : sX0_run_77 F k_51 h x0 x1 x2 t0 = some o) : Le h o.2 := by
  obtain ⟨r_1, er_1, hE⟩ := cl_e hE
  obtain ⟨g_2, hE⟩ := gd_e hE
  obtain ⟨h_3, eh_3, hE⟩ := nm_e2 hE
  refine (le_I eh_3).tr ?_
  obtain ⟨r_4, er_4, hE⟩ := cl_e hE
  obtain ⟨g_5, hE⟩ := gd_e hE
  obtain ⟨r_6, er_6, hE⟩ := cl_e hE
  obtain ⟨g_7, hE⟩ := gd_e hE
  obtain ⟨o_8, eo_8, hE⟩ := cl_e hE
  refine (moX0_layOut eo_8).tr ?_
  exact moX0_run_108 mk_51 hE
set_option maxRecDepth 20000 in
theorem moX0_run_51 {o : Int32 × Hp} {F : Nat} : ∀ (f : Nat) {h : Hp} {x0 : Nat} {x1 : Int32}, sX0_run_51 F f h x0 x1 = some o → Le h o.2 := by
  intro f
  induction f with
  | zero =>
    intro h x0 x1 hE
    rw [sX0_run_51] at hE
    cases hE
  | succ f ih =>
    intro h x0 x1 hE
    rw [sX0_run_51] at hE
    have mk_51 : ∀ (h : Hp) (x0 : Nat) (x1 : Int32), sX0_run_51 F f h x0 x1 = some o → Le h o.2 := fun h x0 x1 hE => ih hE
    rcases br_e hE with ⟨_, hE⟩ | ⟨_, hE⟩
    · exact moX0_run_131 hE
    · rcases br_e hE with ⟨_, hE⟩ | ⟨_, hE⟩
      · exact moX0_run_131 hE
      · obtain ⟨r_3, er_3, hE⟩ := cl_e hE
        obtain ⟨g_4, hE⟩ := gd_e hE
        obtain ⟨v_5, ev_5, hE⟩ := nm_e2 hE
        obtain ⟨o_6, eo_6, hE⟩ := cl_e hE
        refine (moX0_setOf eo_6).tr ?_
        exact moX0_run_77 mk_51 hE
set_option maxRecDepth 20000 in
theorem moX0_run_49 {o : Int32 × Hp} {F : Nat} {h : Hp} {x0 : Nat} (hE : sX0_run_49 F h x0 = some o) : Le h o.2 := by
  exact moX0_run_51 _ hE
set_option maxRecDepth 20000 in
theorem moX0_run_45 {o : Int32 × Hp} {F : Nat} {h : Hp} {x0 : Nat} (hE : sX0_run_45 F h x0 = some o) : Le h o.2 := by
  obtain ⟨o_1, eo_1, hE⟩ := cl_e hE
  refine (moX0_queueEnds eo_1).tr ?_
  exact moX0_run_49 hE
set_option maxRecDepth 20000 in
theorem moX0_run_35 {o : Int32 × Hp} {F : Nat} {h : Hp} {x0 : Nat} (hE : sX0_run_35 F h x0 = some o) : Le h o.2 := by
  obtain ⟨h_1, eh_1, hE⟩ := nm_e2 hE
  refine (le_I eh_1).tr ?_
  obtain ⟨o_2, eo_2, hE⟩ := cl_e hE
  refine (moX0_countAll eo_2).tr ?_
  exact moX0_run_45 hE
set_option maxRecDepth 20000 in
theorem moX0_run_18 {o : Int32 × Hp} {F : Nat} {h : Hp} {x0 : Nat} (hE : sX0_run_18 F h x0 = some o) : Le h o.2 := by
  obtain ⟨h_1, eh_1, hE⟩ := nm_e2 hE
  refine (le_I eh_1).tr ?_
  obtain ⟨h_2, eh_2, hE⟩ := nm_e2 hE
  refine (le_I eh_2).tr ?_
  obtain ⟨o_3, eo_3, hE⟩ := cl_e hE
  refine (moX0_markAll eo_3).tr ?_
  exact moX0_run_35 hE
set_option maxRecDepth 20000 in
theorem moX0_run_9 {o : Int32 × Hp} {F : Nat} {h : Hp} {x0 : Nat} {t0 : Int32} (hE : sX0_run_9 F h x0 t0 = some o) : Le h o.2 := by
  rcases br_e hE with ⟨_, hE⟩ | ⟨_, hE⟩
  · exact le_some2 hE
  · obtain ⟨o_2, eo_2, hE⟩ := cl_e hE
    refine (moX0_makeRoom eo_2).tr ?_
    exact moX0_run_18 hE
set_option maxRecDepth 20000 in
theorem moX0_run {o : Int32 × Hp} {F : Nat} {h : Hp} {x0 : Nat} (hE : sX0_run F h x0 = some o) : Le h o.2 := by
  obtain ⟨h_1, eh_1, hE⟩ := nm_e2 hE
  refine (le_I eh_1).tr ?_
  obtain ⟨o_2, eo_2, hE⟩ := cl_e hE
  refine (moX0_gatherSets eo_2).tr ?_
  exact moX0_run_9 hE
set_option maxRecDepth 20000 in
theorem bX0_run_168 {p : Program} {l : Launch} {e : Env} {s : State} {m : MethodId} {args : Array Value} {below : List Frame} {meth : Method} {c : Code} {X : Ec} {h0 : Hp} {o : Int32 × Hp} {k_133 : Hp → Nat → Int32 → Option (Int32 × Hp)} {F : Nat} (C : Cx X p s m args meth c RX0 cX0_run 4 (some .boolean) "run") (hk_133 : ∀ (h : Hp) (x0 : Nat) (x1 : Int32) (H : Heap) (locs : List Loc), hK h x0 = 0 → Kl h0 h → Wx X h H → va_S (aA (eB X)) s.heap H locs → ∀ (ls : Array Slot), lv_has ls 4 [(0, .ref x0), (1, .int x1)] → k_133 h x0 x1 = some o → W p l e (rmA 6 171 h0 o.2) s m args below meth c H locs (hS h - hS h0) (hL h - hL h0) (MQ below (QIA X h0 o.1 o.2) args s (hS o.2 - hS h0) (hL o.2 - hL h0) (aA (eB X))) (F0 m 133 ls [])) (mk_133 : ∀ (h : Hp) (x0 : Nat) (x1 : Int32), k_133 h x0 x1 = some o → Le h o.2) {h : Hp} {x0 : Nat} {x1 : Int32} {t0 : Int32} {t1 : Int32} {t2 : Nat} {H : Heap} {locs : List Loc} (k_x0 : hK h x0 = 0) (k_t2 : hK h t2 = 17) (hkl : Kl h0 h) (hW : Wx X h H) (hZ : va_S (aA (eB X)) s.heap H locs) (ls : Array Slot) (hl : lv_has ls 4 [(0, .ref x0), (1, .int x1)]) (hE : sX0_run_168 F k_133 h x0 x1 t0 t1 t2 = some o) : W p l e (rmA 6 171 h0 o.2) s m args below meth c H locs (hS h - hS h0) (hL h - hL h0) (MQ below (QIA X h0 o.1 o.2) args s (hS o.2 - hS h0) (hL o.2 - hL h0) (aA (eB X))) (F0 m 168 ls [.int t0, .int t1, .ref t2]) := by
  obtain ⟨g_1, hE⟩ := gd_e hE
  obtain ⟨h_2, eh_2, hE⟩ := nm_e2 hE
  refine y_iast C hW hZ k_t2 g_1 eh_2 dX0_run_168 (fun _ _ hW km hZ => ?_)
  replace hkl := hkl.tr km.l
  refine x_wc km ?_
  replace k_x0 := km.at k_x0 (by decide)
  obtain ⟨v_3, ev_3, hE⟩ := nm_e2 hE
  refine lv_iinc (v := v_3) (lv' := [(1, .int v_3), (0, .ref x0)]) C.1 C.2.1 dX0_run_169 hl (k := 1) rfl (by rw [ev_3]; rfl) (by decide) rfl (fun ls hl => ?_)
  refine lv_goto (tgt := 133) C.1 C.2.1 dX0_run_172 (by decide) ?_
  exact hk_133 _ _ _ _ _ k_x0 hkl hW hZ _ (lv_sub hl [1, 0] rfl) hE
set_option maxRecDepth 20000 in
theorem bX0_run_133 {p : Program} {l : Launch} {e : Env} {s : State} {m : MethodId} {args : Array Value} {below : List Frame} {meth : Method} {c : Code} {X : Ec} {h0 : Hp} {o : Int32 × Hp} {F : Nat} (C : Cx X p s m args meth c RX0 cX0_run 4 (some .boolean) "run") : ∀ (f : Nat) {h : Hp} {x0 : Nat} {x1 : Int32} {H : Heap} {locs : List Loc} (k_x0 : hK h x0 = 0), Kl h0 h → Wx X h H → va_S (aA (eB X)) s.heap H locs → ∀ (ls : Array Slot), lv_has ls 4 [(0, .ref x0), (1, .int x1)] → sX0_run_133 F f h x0 x1 = some o → W p l e (rmA 6 171 h0 o.2) s m args below meth c H locs (hS h - hS h0) (hL h - hL h0) (MQ below (QIA X h0 o.1 o.2) args s (hS o.2 - hS h0) (hL o.2 - hL h0) (aA (eB X))) (F0 m 133 ls []) := by
  intro f
  induction f with
  | zero =>
    intro h x0 x1 H locs k_x0 hkl hW hZ ls hl hE
    rw [sX0_run_133] at hE
    cases hE
  | succ f ih =>
    intro h x0 x1 H locs k_x0 hkl hW hZ ls hl hE
    rw [sX0_run_133] at hE
    have mk_133 : ∀ (h : Hp) (x0 : Nat) (x1 : Int32), sX0_run_133 F f h x0 x1 = some o → Le h o.2 := fun h x0 x1 hE => moX0_run_133 _ hE
    have hk_133 : ∀ (h : Hp) (x0 : Nat) (x1 : Int32) (H : Heap) (locs : List Loc), hK h x0 = 0 → Kl h0 h → Wx X h H → va_S (aA (eB X)) s.heap H locs → ∀ (ls : Array Slot), lv_has ls 4 [(0, .ref x0), (1, .int x1)] → sX0_run_133 F f h x0 x1 = some o → W p l e (rmA 6 171 h0 o.2) s m args below meth c H locs (hS h - hS h0) (hL h - hL h0) (MQ below (QIA X h0 o.1 o.2) args s (hS o.2 - hS h0) (hL o.2 - hL h0) (aA (eB X))) (F0 m 133 ls []) := fun h x0 x1 H locs k_x0 a b c ls hl hE => ih k_x0 a b c ls hl hE
    refine lv_iload_n C.1 C.2.1 dX0_run_133 rfl (lv_at hl 1 rfl) ?_
    refine lv_aload_n C.1 C.2.1 dX0_run_134 rfl (lv_at hl 0 rfl) ?_
    refine gf_X0_119 C hW k_x0 dX0_run_135 ?_
    refine lv_l2i C.1 C.2.1 dX0_run_138 rfl ?_
    refine lv_icmp_ge (tgt := 175) C.1 C.2.1 dX0_run_139 (by decide) (fun c_1 => ?_) (fun c_1 => ?_)
    · have hE := br_p hE c_1
      refine lv_aload_n C.1 C.2.1 dX0_run_175 rfl (lv_at hl 0 rfl) ?_
      refine lv_iconst (v := (1 : Int32)) C.1 C.2.1 dX0_run_176 (by decide) ?_
      obtain ⟨h_2, eh_2, hE⟩ := nm_e2 hE
      refine pf_X0_77 C hW hZ k_x0 (by decide) eh_2 dX0_run_177 (fun _ _ hW km hZ => ?_)
      replace hkl := hkl.tr km.l
      refine x_wc km ?_
      replace k_x0 := km.at k_x0 (by decide)
      refine lv_iconst (v := (1 : Int32)) C.1 C.2.1 dX0_run_180 (by decide) ?_
      exact x_iretA C rfl (by decide) hW hZ hkl hE dX0_run_181
    · have hE := br_n hE c_1
      refine lv_aload_n C.1 C.2.1 dX0_run_142 rfl (lv_at hl 0 rfl) ?_
      obtain ⟨r_3, er_3, hE⟩ := cl_e hE
      refine gf_X0_31 C hW k_x0 er_3 dX0_run_143 (fun k_r_3 => ?_)
      refine lv_iload_n C.1 C.2.1 dX0_run_146 rfl (lv_at hl 1 rfl) ?_
      refine lv_aload_n C.1 C.2.1 dX0_run_147 rfl (lv_at hl 0 rfl) ?_
      obtain ⟨r_4, er_4, hE⟩ := cl_e hE
      refine gf_X0_31 C hW k_x0 er_4 dX0_run_148 (fun k_r_4 => ?_)
      refine lv_iload_n C.1 C.2.1 dX0_run_151 rfl (lv_at hl 1 rfl) ?_
      obtain ⟨g_5, hE⟩ := gd_e hE
      refine y_iald C hW k_r_4 g_5 dX0_run_152 ?_
      refine lv_ldc (v := (3000000 : Int32)) C.1 C.2.1 C.2.2.2.1 (C.2.2.2.2.1 _ m_1664) dX0_run_153 ?_
      refine lv_icmp_ne (tgt := 162) C.1 C.2.1 dX0_run_155 (by decide) (fun c_6 => ?_) (fun c_6 => ?_)
      · have hE := br_n hE c_6
        refine lv_aload_n C.1 C.2.1 dX0_run_162 rfl (lv_at hl 0 rfl) ?_
        obtain ⟨r_7, er_7, hE⟩ := cl_e hE
        refine gf_X0_31 C hW k_x0 er_7 dX0_run_163 (fun k_r_7 => ?_)
        refine lv_iload_n C.1 C.2.1 dX0_run_166 rfl (lv_at hl 1 rfl) ?_
        obtain ⟨g_8, hE⟩ := gd_e hE
        refine y_iald C hW k_r_7 g_8 dX0_run_167 ?_
        exact bX0_run_168 C hk_133 mk_133 k_x0 k_r_3 hkl hW hZ _ (lv_sub hl [0, 1] rfl) hE
      · have hE := br_p hE c_6
        refine lv_iconst (v := (0 : Int32)) C.1 C.2.1 dX0_run_158 (by decide) ?_
        refine lv_goto (tgt := 168) C.1 C.2.1 dX0_run_159 (by decide) ?_
        exact bX0_run_168 C hk_133 mk_133 k_x0 k_r_3 hkl hW hZ _ (lv_sub hl [0, 1] rfl) hE
set_option maxRecDepth 20000 in
theorem bX0_run_131 {p : Program} {l : Launch} {e : Env} {s : State} {m : MethodId} {args : Array Value} {below : List Frame} {meth : Method} {c : Code} {X : Ec} {h0 : Hp} {o : Int32 × Hp} {F : Nat} (C : Cx X p s m args meth c RX0 cX0_run 4 (some .boolean) "run") {h : Hp} {x0 : Nat} {H : Heap} {locs : List Loc} (k_x0 : hK h x0 = 0) (hkl : Kl h0 h) (hW : Wx X h H) (hZ : va_S (aA (eB X)) s.heap H locs) (ls : Array Slot) (hl : lv_has ls 4 [(0, .ref x0)]) (hE : sX0_run_131 F h x0 = some o) : W p l e (rmA 6 171 h0 o.2) s m args below meth c H locs (hS h - hS h0) (hL h - hL h0) (MQ below (QIA X h0 o.1 o.2) args s (hS o.2 - hS h0) (hL o.2 - hL h0) (aA (eB X))) (F0 m 131 ls []) := by
  refine lv_iconst (v := (0 : Int32)) C.1 C.2.1 dX0_run_131 (by decide) ?_
  refine lv_istore_n (lv' := [(1, .int (0 : Int32)), (0, .ref x0)]) C.1 C.2.1 dX0_run_132 rfl hl (by decide) rfl (fun ls hl => ?_)
  exact bX0_run_133 C F k_x0 hkl hW hZ _ (lv_sub hl [1, 0] rfl) hE
set_option maxRecDepth 20000 in
theorem bX0_run_125 {p : Program} {l : Launch} {e : Env} {s : State} {m : MethodId} {args : Array Value} {below : List Frame} {meth : Method} {c : Code} {X : Ec} {h0 : Hp} {o : Int32 × Hp} {k_51 : Hp → Nat → Int32 → Option (Int32 × Hp)} {F : Nat} (C : Cx X p s m args meth c RX0 cX0_run 4 (some .boolean) "run") (hk_51 : ∀ (h : Hp) (x0 : Nat) (x1 : Int32) (H : Heap) (locs : List Loc), hK h x0 = 0 → Kl h0 h → Wx X h H → va_S (aA (eB X)) s.heap H locs → ∀ (ls : Array Slot), lv_has ls 4 [(0, .ref x0), (1, .int x1)] → k_51 h x0 x1 = some o → W p l e (rmA 6 171 h0 o.2) s m args below meth c H locs (hS h - hS h0) (hL h - hL h0) (MQ below (QIA X h0 o.1 o.2) args s (hS o.2 - hS h0) (hL o.2 - hL h0) (aA (eB X))) (F0 m 51 ls [])) (mk_51 : ∀ (h : Hp) (x0 : Nat) (x1 : Int32), k_51 h x0 x1 = some o → Le h o.2) {h : Hp} {x0 : Nat} {x1 : Int32} {H : Heap} {locs : List Loc} (k_x0 : hK h x0 = 0) (hkl : Kl h0 h) (hW : Wx X h H) (hZ : va_S (aA (eB X)) s.heap H locs) (ls : Array Slot) (hl : lv_has ls 4 [(0, .ref x0), (1, .int x1)]) (hE : sX0_run_125 F k_51 h x0 x1 = some o) : W p l e (rmA 6 171 h0 o.2) s m args below meth c H locs (hS h - hS h0) (hL h - hL h0) (MQ below (QIA X h0 o.1 o.2) args s (hS o.2 - hS h0) (hL o.2 - hL h0) (aA (eB X))) (F0 m 125 ls []) := by
  obtain ⟨v_1, ev_1, hE⟩ := nm_e2 hE
  refine lv_iinc (v := v_1) (lv' := [(1, .int v_1), (0, .ref x0)]) C.1 C.2.1 dX0_run_125 hl (k := 1) rfl (by rw [ev_1]; rfl) (by decide) rfl (fun ls hl => ?_)
  refine lv_goto (tgt := 51) C.1 C.2.1 dX0_run_128 (by decide) ?_
  exact hk_51 _ _ _ _ _ k_x0 hkl hW hZ _ (lv_sub hl [1, 0] rfl) hE
set_option maxRecDepth 20000 in
theorem bX0_run_108 {p : Program} {l : Launch} {e : Env} {s : State} {m : MethodId} {args : Array Value} {below : List Frame} {meth : Method} {c : Code} {X : Ec} {h0 : Hp} {o : Int32 × Hp} {k_51 : Hp → Nat → Int32 → Option (Int32 × Hp)} {F : Nat} (C : Cx X p s m args meth c RX0 cX0_run 4 (some .boolean) "run") (hk_51 : ∀ (h : Hp) (x0 : Nat) (x1 : Int32) (H : Heap) (locs : List Loc), hK h x0 = 0 → Kl h0 h → Wx X h H → va_S (aA (eB X)) s.heap H locs → ∀ (ls : Array Slot), lv_has ls 4 [(0, .ref x0), (1, .int x1)] → k_51 h x0 x1 = some o → W p l e (rmA 6 171 h0 o.2) s m args below meth c H locs (hS h - hS h0) (hL h - hL h0) (MQ below (QIA X h0 o.1 o.2) args s (hS o.2 - hS h0) (hL o.2 - hL h0) (aA (eB X))) (F0 m 51 ls [])) (mk_51 : ∀ (h : Hp) (x0 : Nat) (x1 : Int32), k_51 h x0 x1 = some o → Le h o.2) {h : Hp} {x0 : Nat} {x1 : Int32} {x2 : Int32} {x3 : Int32} {t0 : Int32} {H : Heap} {locs : List Loc} (k_x0 : hK h x0 = 0) (hkl : Kl h0 h) (hW : Wx X h H) (hZ : va_S (aA (eB X)) s.heap H locs) (ls : Array Slot) (hl : lv_has ls 4 [(0, .ref x0), (1, .int x1), (2, .int x2), (3, .int x3)]) (hE : sX0_run_108 F k_51 h x0 x1 x2 x3 t0 = some o) : W p l e (rmA 6 171 h0 o.2) s m args below meth c H locs (hS h - hS h0) (hL h - hL h0) (MQ below (QIA X h0 o.1 o.2) args s (hS o.2 - hS h0) (hL o.2 - hL h0) (aA (eB X))) (F0 m 108 ls [.int t0]) := by
  refine lv_if_eq (tgt := 125) C.1 C.2.1 dX0_run_108 (by decide) (fun c_1 => ?_) (fun c_1 => ?_)
  · have hE := br_p hE c_1
    exact bX0_run_125 C hk_51 mk_51 k_x0 hkl hW hZ _ (lv_sub hl [0, 1] rfl) hE
  · have hE := br_n hE c_1
    refine lv_aload_n C.1 C.2.1 dX0_run_111 rfl (lv_at hl 0 rfl) ?_
    refine lv_iload_n C.1 C.2.1 dX0_run_112 rfl (lv_at hl 2 rfl) ?_
    refine lv_aload_n C.1 C.2.1 dX0_run_113 rfl (lv_at hl 0 rfl) ?_
    obtain ⟨r_2, er_2, hE⟩ := cl_e hE
    refine gf_X0_22 C hW k_x0 er_2 dX0_run_114 (fun k_r_2 => ?_)
    refine lv_iload_n C.1 C.2.1 dX0_run_117 rfl (lv_at hl 3 rfl) ?_
    obtain ⟨g_3, hE⟩ := gd_e hE
    refine y_iald C hW k_r_2 g_3 dX0_run_118 ?_
    refine lv_isub C.1 C.2.1 dX0_run_119 ?_
    refine lv_iconst (v := (1 : Int32)) C.1 C.2.1 dX0_run_120 (by decide) ?_
    refine lv_iand C.1 C.2.1 dX0_run_121 ?_
    obtain ⟨o_4, eo_4, hE⟩ := cl_e hE
    have m1 := moX0_goBack eo_4
    have m2 := moX0_run_125 mk_51 hE
    refine x_kV (o := o_4) (z_runV (As := [.int ((x2 - (hI h r_2 x3.toNatClampNeg)) &&& (1 : Int32))]) (rest := []) C (ct_X0_goBack l X F k_x0 eo_4) cw_X0_115 hW hZ k_x0 (by decide) rfl rfl rfl hl.1 (Nat.le_of_ble_eq_true rfl) rfl dX0_run_122 ⟨Nat.le_of_ble_eq_true rfl, Nat.le_of_ble_eq_true rfl⟩ (rm_ok0 hkl m1 m2)) hZ (fun _ _ hW km hZ => ?_)
    replace hkl := hkl.tr km.l
    refine x_wc km ?_
    replace k_x0 := km.at k_x0 (by decide)
    exact bX0_run_125 C hk_51 mk_51 k_x0 hkl hW hZ _ (lv_sub hl [0, 1] rfl) hE
set_option maxRecDepth 20000 in
theorem bX0_run_77 {p : Program} {l : Launch} {e : Env} {s : State} {m : MethodId} {args : Array Value} {below : List Frame} {meth : Method} {c : Code} {X : Ec} {h0 : Hp} {o : Int32 × Hp} {k_51 : Hp → Nat → Int32 → Option (Int32 × Hp)} {F : Nat} (C : Cx X p s m args meth c RX0 cX0_run 4 (some .boolean) "run") (hk_51 : ∀ (h : Hp) (x0 : Nat) (x1 : Int32) (H : Heap) (locs : List Loc), hK h x0 = 0 → Kl h0 h → Wx X h H → va_S (aA (eB X)) s.heap H locs → ∀ (ls : Array Slot), lv_has ls 4 [(0, .ref x0), (1, .int x1)] → k_51 h x0 x1 = some o → W p l e (rmA 6 171 h0 o.2) s m args below meth c H locs (hS h - hS h0) (hL h - hL h0) (MQ below (QIA X h0 o.1 o.2) args s (hS o.2 - hS h0) (hL o.2 - hL h0) (aA (eB X))) (F0 m 51 ls [])) (mk_51 : ∀ (h : Hp) (x0 : Nat) (x1 : Int32), k_51 h x0 x1 = some o → Le h o.2) {h : Hp} {x0 : Nat} {x1 : Int32} {x2 : Int32} {t0 : Int32} {H : Heap} {locs : List Loc} (k_x0 : hK h x0 = 0) (hkl : Kl h0 h) (hW : Wx X h H) (hZ : va_S (aA (eB X)) s.heap H locs) (ls : Array Slot) (hl : lv_has ls 4 [(0, .ref x0), (1, .int x1), (2, .int x2)]) (hE : sX0_run_77 F k_51 h x0 x1 x2 t0 = some o) : W p l e (rmA 6 171 h0 o.2) s m args below meth c H locs (hS h - hS h0) (hL h - hL h0) (MQ below (QIA X h0 o.1 o.2) args s (hS o.2 - hS h0) (hL o.2 - hL h0) (aA (eB X))) (F0 m 77 ls [.int t0]) := by
  refine lv_istore_n (lv' := [(3, .int t0), (0, .ref x0), (1, .int x1), (2, .int x2)]) C.1 C.2.1 dX0_run_77 rfl hl (by decide) rfl (fun ls hl => ?_)
  refine lv_aload_n C.1 C.2.1 dX0_run_78 rfl (lv_at hl 1 rfl) ?_
  refine lv_aload_n C.1 C.2.1 dX0_run_79 rfl (lv_at hl 1 rfl) ?_
  obtain ⟨r_1, er_1, hE⟩ := cl_e hE
  refine gf_X0_31 C hW k_x0 er_1 dX0_run_80 (fun k_r_1 => ?_)
  refine lv_iload_n C.1 C.2.1 dX0_run_83 rfl (lv_at hl 3 rfl) ?_
  obtain ⟨g_2, hE⟩ := gd_e hE
  refine y_iald C hW k_r_1 g_2 dX0_run_84 ?_
  obtain ⟨h_3, eh_3, hE⟩ := nm_e2 hE
  refine pf_X0_98 C hW hZ k_x0 eh_3 dX0_run_85 (fun _ _ hW km hZ => ?_)
  replace hkl := hkl.tr km.l
  refine x_wc km ?_
  replace k_x0 := km.at k_x0 (by decide)
  refine lv_aload_n C.1 C.2.1 dX0_run_88 rfl (lv_at hl 1 rfl) ?_
  refine lv_aload_n C.1 C.2.1 dX0_run_89 rfl (lv_at hl 1 rfl) ?_
  obtain ⟨r_4, er_4, hE⟩ := cl_e hE
  refine gf_X0_18 C hW k_x0 er_4 dX0_run_90 (fun k_r_4 => ?_)
  refine lv_iload_n C.1 C.2.1 dX0_run_93 rfl (lv_at hl 0 rfl) ?_
  obtain ⟨g_5, hE⟩ := gd_e hE
  refine y_iald C hW k_r_4 g_5 dX0_run_94 ?_
  refine lv_iload_n C.1 C.2.1 dX0_run_95 rfl (lv_at hl 3 rfl) ?_
  refine lv_aload_n C.1 C.2.1 dX0_run_96 rfl (lv_at hl 1 rfl) ?_
  obtain ⟨r_6, er_6, hE⟩ := cl_e hE
  refine gf_X0_22 C hW k_x0 er_6 dX0_run_97 (fun k_r_6 => ?_)
  refine lv_iload_n C.1 C.2.1 dX0_run_100 rfl (lv_at hl 0 rfl) ?_
  obtain ⟨g_7, hE⟩ := gd_e hE
  refine y_iald C hW k_r_6 g_7 dX0_run_101 ?_
  refine lv_isub C.1 C.2.1 dX0_run_102 ?_
  refine lv_iconst (v := (1 : Int32)) C.1 C.2.1 dX0_run_103 (by decide) ?_
  refine lv_ishr C.1 C.2.1 dX0_run_104 ?_
  obtain ⟨o_8, eo_8, hE⟩ := cl_e hE
  have m1 := moX0_layOut eo_8
  have m2 := moX0_run_108 mk_51 hE
  refine x_kI (o := o_8) (z_runV (As := [.int (hI h_3 r_4 t0.toNatClampNeg), .int ((x2 - (hI h_3 r_6 t0.toNatClampNeg)) >>> ((1 : Int32) &&& 31))]) (rest := []) C (ct_X0_layOut l X F k_x0 eo_8) cw_X0_111 hW hZ k_x0 (by decide) rfl rfl rfl hl.1 (Nat.le_of_ble_eq_true rfl) rfl dX0_run_105 ⟨Nat.le_of_ble_eq_true rfl, Nat.le_of_ble_eq_true rfl⟩ (rm_ok0 hkl m1 m2)) hZ (fun _ _ hW km hZ => ?_)
  replace hkl := hkl.tr km.l
  refine x_wc km ?_
  replace k_x0 := km.at k_x0 (by decide)
  exact bX0_run_108 C hk_51 mk_51 k_x0 hkl hW hZ _ (lv_sub hl [1, 2, 3, 0] rfl) hE
set_option maxRecDepth 20000 in
theorem bX0_run_51 {p : Program} {l : Launch} {e : Env} {s : State} {m : MethodId} {args : Array Value} {below : List Frame} {meth : Method} {c : Code} {X : Ec} {h0 : Hp} {o : Int32 × Hp} {F : Nat} (C : Cx X p s m args meth c RX0 cX0_run 4 (some .boolean) "run") : ∀ (f : Nat) {h : Hp} {x0 : Nat} {x1 : Int32} {H : Heap} {locs : List Loc} (k_x0 : hK h x0 = 0), Kl h0 h → Wx X h H → va_S (aA (eB X)) s.heap H locs → ∀ (ls : Array Slot), lv_has ls 4 [(0, .ref x0), (1, .int x1)] → sX0_run_51 F f h x0 x1 = some o → W p l e (rmA 6 171 h0 o.2) s m args below meth c H locs (hS h - hS h0) (hL h - hL h0) (MQ below (QIA X h0 o.1 o.2) args s (hS o.2 - hS h0) (hL o.2 - hL h0) (aA (eB X))) (F0 m 51 ls []) := by
  intro f
  induction f with
  | zero =>
    intro h x0 x1 H locs k_x0 hkl hW hZ ls hl hE
    rw [sX0_run_51] at hE
    cases hE
  | succ f ih =>
    intro h x0 x1 H locs k_x0 hkl hW hZ ls hl hE
    rw [sX0_run_51] at hE
    have mk_51 : ∀ (h : Hp) (x0 : Nat) (x1 : Int32), sX0_run_51 F f h x0 x1 = some o → Le h o.2 := fun h x0 x1 hE => moX0_run_51 _ hE
    have hk_51 : ∀ (h : Hp) (x0 : Nat) (x1 : Int32) (H : Heap) (locs : List Loc), hK h x0 = 0 → Kl h0 h → Wx X h H → va_S (aA (eB X)) s.heap H locs → ∀ (ls : Array Slot), lv_has ls 4 [(0, .ref x0), (1, .int x1)] → sX0_run_51 F f h x0 x1 = some o → W p l e (rmA 6 171 h0 o.2) s m args below meth c H locs (hS h - hS h0) (hL h - hL h0) (MQ below (QIA X h0 o.1 o.2) args s (hS o.2 - hS h0) (hL o.2 - hL h0) (aA (eB X))) (F0 m 51 ls []) := fun h x0 x1 H locs k_x0 a b c ls hl hE => ih k_x0 a b c ls hl hE
    refine lv_iload_n C.1 C.2.1 dX0_run_51 rfl (lv_at hl 1 rfl) ?_
    refine lv_aload_n C.1 C.2.1 dX0_run_52 rfl (lv_at hl 0 rfl) ?_
    refine gf_X0_91 C hW k_x0 dX0_run_53 ?_
    refine lv_icmp_ge (tgt := 131) C.1 C.2.1 dX0_run_56 (by decide) (fun c_1 => ?_) (fun c_1 => ?_)
    · have hE := br_p hE c_1
      exact bX0_run_131 C k_x0 hkl hW hZ _ (lv_sub hl [0] rfl) hE
    · have hE := br_n hE c_1
      refine lv_iload_n C.1 C.2.1 dX0_run_59 rfl (lv_at hl 1 rfl) ?_
      refine lv_ldc (v := (600000 : Int32)) C.1 C.2.1 C.2.2.2.1 (C.2.2.2.2.1 _ m_1643) dX0_run_60 ?_
      refine lv_icmp_ge (tgt := 131) C.1 C.2.1 dX0_run_62 (by decide) (fun c_2 => ?_) (fun c_2 => ?_)
      · have hE := br_p hE c_2
        exact bX0_run_131 C k_x0 hkl hW hZ _ (lv_sub hl [0] rfl) hE
      · have hE := br_n hE c_2
        refine lv_aload_n C.1 C.2.1 dX0_run_65 rfl (lv_at hl 0 rfl) ?_
        obtain ⟨r_3, er_3, hE⟩ := cl_e hE
        refine gf_X0_37 C hW k_x0 er_3 dX0_run_66 (fun k_r_3 => ?_)
        refine lv_iload_n C.1 C.2.1 dX0_run_69 rfl (lv_at hl 1 rfl) ?_
        obtain ⟨g_4, hE⟩ := gd_e hE
        refine y_iald C hW k_r_3 g_4 dX0_run_70 ?_
        obtain ⟨v_5, ev_5, hE⟩ := nm_e2 hE
        refine x_nmI ev_5 ?_
        refine lv_istore_n (lv' := [(2, .int v_5), (0, .ref x0), (1, .int x1)]) C.1 C.2.1 dX0_run_71 rfl hl (by decide) rfl (fun ls hl => ?_)
        refine lv_aload_n C.1 C.2.1 dX0_run_72 rfl (lv_at hl 1 rfl) ?_
        refine lv_iload_n C.1 C.2.1 dX0_run_73 rfl (lv_at hl 0 rfl) ?_
        obtain ⟨o_6, eo_6, hE⟩ := cl_e hE
        have m1 := moX0_setOf eo_6
        have m2 := moX0_run_77 mk_51 hE
        refine x_kI (o := o_6) (z_runV (As := [.int v_5]) (rest := []) C (ct_X0_setOf l X F k_x0 eo_6) cw_X0_108 hW hZ k_x0 (by decide) rfl rfl rfl hl.1 (Nat.le_of_ble_eq_true rfl) rfl dX0_run_74 ⟨Nat.le_of_ble_eq_true rfl, Nat.le_of_ble_eq_true rfl⟩ (rm_ok0 hkl m1 m2)) hZ (fun _ _ hW km hZ => ?_)
        replace hkl := hkl.tr km.l
        refine x_wc km ?_
        replace k_x0 := km.at k_x0 (by decide)
        exact bX0_run_77 C hk_51 mk_51 k_x0 hkl hW hZ _ (lv_sub hl [1, 2, 0] rfl) hE
set_option maxRecDepth 20000 in
theorem bX0_run_49 {p : Program} {l : Launch} {e : Env} {s : State} {m : MethodId} {args : Array Value} {below : List Frame} {meth : Method} {c : Code} {X : Ec} {h0 : Hp} {o : Int32 × Hp} {F : Nat} (C : Cx X p s m args meth c RX0 cX0_run 4 (some .boolean) "run") {h : Hp} {x0 : Nat} {H : Heap} {locs : List Loc} (k_x0 : hK h x0 = 0) (hkl : Kl h0 h) (hW : Wx X h H) (hZ : va_S (aA (eB X)) s.heap H locs) (ls : Array Slot) (hl : lv_has ls 4 [(0, .ref x0)]) (hE : sX0_run_49 F h x0 = some o) : W p l e (rmA 6 171 h0 o.2) s m args below meth c H locs (hS h - hS h0) (hL h - hL h0) (MQ below (QIA X h0 o.1 o.2) args s (hS o.2 - hS h0) (hL o.2 - hL h0) (aA (eB X))) (F0 m 49 ls []) := by
  refine lv_iconst (v := (0 : Int32)) C.1 C.2.1 dX0_run_49 (by decide) ?_
  refine lv_istore_n (lv' := [(1, .int (0 : Int32)), (0, .ref x0)]) C.1 C.2.1 dX0_run_50 rfl hl (by decide) rfl (fun ls hl => ?_)
  exact bX0_run_51 C F k_x0 hkl hW hZ _ (lv_sub hl [1, 0] rfl) hE
set_option maxRecDepth 20000 in
theorem bX0_run_45 {p : Program} {l : Launch} {e : Env} {s : State} {m : MethodId} {args : Array Value} {below : List Frame} {meth : Method} {c : Code} {X : Ec} {h0 : Hp} {o : Int32 × Hp} {F : Nat} (C : Cx X p s m args meth c RX0 cX0_run 4 (some .boolean) "run") {h : Hp} {x0 : Nat} {H : Heap} {locs : List Loc} (k_x0 : hK h x0 = 0) (hkl : Kl h0 h) (hW : Wx X h H) (hZ : va_S (aA (eB X)) s.heap H locs) (ls : Array Slot) (hl : lv_has ls 4 [(0, .ref x0)]) (hE : sX0_run_45 F h x0 = some o) : W p l e (rmA 6 171 h0 o.2) s m args below meth c H locs (hS h - hS h0) (hL h - hL h0) (MQ below (QIA X h0 o.1 o.2) args s (hS o.2 - hS h0) (hL o.2 - hL h0) (aA (eB X))) (F0 m 45 ls []) := by
  refine lv_aload_n C.1 C.2.1 dX0_run_45 rfl (lv_at hl 0 rfl) ?_
  obtain ⟨o_1, eo_1, hE⟩ := cl_e hE
  have m1 := moX0_queueEnds eo_1
  have m2 := moX0_run_49 hE
  refine x_kV (o := o_1) (z_runV (As := []) (rest := []) C (ct_X0_queueEnds l X F k_x0 eo_1) cw_X0_104 hW hZ k_x0 (by decide) rfl rfl rfl hl.1 (Nat.le_of_ble_eq_true rfl) rfl dX0_run_46 ⟨Nat.le_of_ble_eq_true rfl, Nat.le_of_ble_eq_true rfl⟩ (rm_ok0 hkl m1 m2)) hZ (fun _ _ hW km hZ => ?_)
  replace hkl := hkl.tr km.l
  refine x_wc km ?_
  replace k_x0 := km.at k_x0 (by decide)
  exact bX0_run_49 C k_x0 hkl hW hZ _ (lv_sub hl [0] rfl) hE
set_option maxRecDepth 20000 in
theorem bX0_run_35 {p : Program} {l : Launch} {e : Env} {s : State} {m : MethodId} {args : Array Value} {below : List Frame} {meth : Method} {c : Code} {X : Ec} {h0 : Hp} {o : Int32 × Hp} {F : Nat} (C : Cx X p s m args meth c RX0 cX0_run 4 (some .boolean) "run") {h : Hp} {x0 : Nat} {H : Heap} {locs : List Loc} (k_x0 : hK h x0 = 0) (hkl : Kl h0 h) (hW : Wx X h H) (hZ : va_S (aA (eB X)) s.heap H locs) (ls : Array Slot) (hl : lv_has ls 4 [(0, .ref x0)]) (hE : sX0_run_35 F h x0 = some o) : W p l e (rmA 6 171 h0 o.2) s m args below meth c H locs (hS h - hS h0) (hL h - hL h0) (MQ below (QIA X h0 o.1 o.2) args s (hS o.2 - hS h0) (hL o.2 - hL h0) (aA (eB X))) (F0 m 35 ls []) := by
  refine lv_aload_n C.1 C.2.1 dX0_run_35 rfl (lv_at hl 0 rfl) ?_
  refine lv_ldc (v := (3000000 : Int32)) C.1 C.2.1 C.2.2.2.1 (C.2.2.2.2.1 _ m_1664) dX0_run_36 ?_
  obtain ⟨h_1, eh_1, hE⟩ := nm_e2 hE
  refine pf_X0_98 C hW hZ k_x0 eh_1 dX0_run_38 (fun _ _ hW km hZ => ?_)
  replace hkl := hkl.tr km.l
  refine x_wc km ?_
  replace k_x0 := km.at k_x0 (by decide)
  refine lv_aload_n C.1 C.2.1 dX0_run_41 rfl (lv_at hl 0 rfl) ?_
  obtain ⟨o_2, eo_2, hE⟩ := cl_e hE
  have m1 := moX0_countAll eo_2
  have m2 := moX0_run_45 hE
  refine x_kV (o := o_2) (z_runV (As := []) (rest := []) C (ct_X0_countAll l X F k_x0 eo_2) cw_X0_101 hW hZ k_x0 (by decide) rfl rfl rfl hl.1 (Nat.le_of_ble_eq_true rfl) rfl dX0_run_42 ⟨Nat.le_of_ble_eq_true rfl, Nat.le_of_ble_eq_true rfl⟩ (rm_ok0 hkl m1 m2)) hZ (fun _ _ hW km hZ => ?_)
  replace hkl := hkl.tr km.l
  refine x_wc km ?_
  replace k_x0 := km.at k_x0 (by decide)
  exact bX0_run_45 C k_x0 hkl hW hZ _ (lv_sub hl [0] rfl) hE
set_option maxRecDepth 20000 in
theorem bX0_run_18 {p : Program} {l : Launch} {e : Env} {s : State} {m : MethodId} {args : Array Value} {below : List Frame} {meth : Method} {c : Code} {X : Ec} {h0 : Hp} {o : Int32 × Hp} {F : Nat} (C : Cx X p s m args meth c RX0 cX0_run 4 (some .boolean) "run") {h : Hp} {x0 : Nat} {H : Heap} {locs : List Loc} (k_x0 : hK h x0 = 0) (hkl : Kl h0 h) (hW : Wx X h H) (hZ : va_S (aA (eB X)) s.heap H locs) (ls : Array Slot) (hl : lv_has ls 4 [(0, .ref x0)]) (hE : sX0_run_18 F h x0 = some o) : W p l e (rmA 6 171 h0 o.2) s m args below meth c H locs (hS h - hS h0) (hL h - hL h0) (MQ below (QIA X h0 o.1 o.2) args s (hS o.2 - hS h0) (hL o.2 - hL h0) (aA (eB X))) (F0 m 18 ls []) := by
  refine lv_aload_n C.1 C.2.1 dX0_run_18 rfl (lv_at hl 0 rfl) ?_
  refine lv_aload_n C.1 C.2.1 dX0_run_19 rfl (lv_at hl 0 rfl) ?_
  refine gf_X0_74 C hW k_x0 dX0_run_20 ?_
  obtain ⟨h_1, eh_1, hE⟩ := nm_e2 hE
  refine pf_X0_88 C hW hZ k_x0 eh_1 dX0_run_23 (fun _ _ hW km hZ => ?_)
  replace hkl := hkl.tr km.l
  refine x_wc km ?_
  replace k_x0 := km.at k_x0 (by decide)
  refine lv_aload_n C.1 C.2.1 dX0_run_26 rfl (lv_at hl 0 rfl) ?_
  refine lv_iconst (v := (0 : Int32)) C.1 C.2.1 dX0_run_27 (by decide) ?_
  obtain ⟨h_2, eh_2, hE⟩ := nm_e2 hE
  refine pf_X0_91 C hW hZ k_x0 eh_2 dX0_run_28 (fun _ _ hW km hZ => ?_)
  replace hkl := hkl.tr km.l
  refine x_wc km ?_
  replace k_x0 := km.at k_x0 (by decide)
  refine lv_aload_n C.1 C.2.1 dX0_run_31 rfl (lv_at hl 0 rfl) ?_
  obtain ⟨o_3, eo_3, hE⟩ := cl_e hE
  have m1 := moX0_markAll eo_3
  have m2 := moX0_run_35 hE
  refine x_kV (o := o_3) (z_runV (As := []) (rest := []) C (ct_X0_markAll l X F k_x0 eo_3) cw_X0_94 hW hZ k_x0 (by decide) rfl rfl rfl hl.1 (Nat.le_of_ble_eq_true rfl) rfl dX0_run_32 ⟨Nat.le_of_ble_eq_true rfl, Nat.le_of_ble_eq_true rfl⟩ (rm_ok0 hkl m1 m2)) hZ (fun _ _ hW km hZ => ?_)
  replace hkl := hkl.tr km.l
  refine x_wc km ?_
  replace k_x0 := km.at k_x0 (by decide)
  exact bX0_run_35 C k_x0 hkl hW hZ _ (lv_sub hl [0] rfl) hE
set_option maxRecDepth 20000 in
theorem bX0_run_9 {p : Program} {l : Launch} {e : Env} {s : State} {m : MethodId} {args : Array Value} {below : List Frame} {meth : Method} {c : Code} {X : Ec} {h0 : Hp} {o : Int32 × Hp} {F : Nat} (C : Cx X p s m args meth c RX0 cX0_run 4 (some .boolean) "run") {h : Hp} {x0 : Nat} {t0 : Int32} {H : Heap} {locs : List Loc} (k_x0 : hK h x0 = 0) (hkl : Kl h0 h) (hW : Wx X h H) (hZ : va_S (aA (eB X)) s.heap H locs) (ls : Array Slot) (hl : lv_has ls 4 [(0, .ref x0)]) (hE : sX0_run_9 F h x0 t0 = some o) : W p l e (rmA 6 171 h0 o.2) s m args below meth c H locs (hS h - hS h0) (hL h - hL h0) (MQ below (QIA X h0 o.1 o.2) args s (hS o.2 - hS h0) (hL o.2 - hL h0) (aA (eB X))) (F0 m 9 ls [.int t0]) := by
  refine lv_if_ne (tgt := 14) C.1 C.2.1 dX0_run_9 (by decide) (fun c_1 => ?_) (fun c_1 => ?_)
  · have hE := br_n hE c_1
    refine lv_aload_n C.1 C.2.1 dX0_run_14 rfl (lv_at hl 0 rfl) ?_
    obtain ⟨o_2, eo_2, hE⟩ := cl_e hE
    have m1 := moX0_makeRoom eo_2
    have m2 := moX0_run_18 hE
    refine x_kVA (o := o_2) hkl (z_runV (As := []) (rest := []) C (ct_X0_makeRoom l X k_x0 eo_2) cw_X0_85 hW hZ k_x0 (by decide) rfl rfl rfl hl.1 (Nat.le_of_ble_eq_true rfl) rfl dX0_run_15 ⟨Nat.le_of_ble_eq_true rfl, Nat.le_of_ble_eq_true rfl⟩ (rm_ok hkl m1 m2)) hZ (fun _ _ hW km hZ => ?_)
    replace hkl := hkl.tr km
    replace k_x0 := km.at k_x0 (by decide)
    exact bX0_run_18 C k_x0 hkl hW hZ _ (lv_sub hl [0] rfl) hE
  · have hE := br_p hE c_1
    refine lv_iconst (v := (0 : Int32)) C.1 C.2.1 dX0_run_12 (by decide) ?_
    exact x_iretA C rfl (by decide) hW hZ hkl hE dX0_run_13
set_option maxRecDepth 20000 in
theorem ct_X0_run (l : Launch) (X : Ec) (F : Nat) {h : Hp} {x0 : Nat} {o : Int32 × Hp} (k_x0 : hK h x0 = 0) (hE : sX0_run F h x0 = some o) : MetIA l yX0_run cX0_run 4 (some .boolean) 6 171 X [.ref x0] h o := by
  refine x_metA (oh := o.2) (by decide) (Nat.le_of_ble_eq_true rfl) ?_
  intro p e s m below meth c ls C hl hW hZ
  have hl : lv_has ls 4 [(0, .ref x0)] := hl
  have hkl : Kl h h := Kl.rf h
  refine lv_aload_n C.1 C.2.1 dX0_run_0 rfl (lv_at hl 0 rfl) ?_
  refine lv_iconst (v := (0 : Int32)) C.1 C.2.1 dX0_run_1 (by decide) ?_
  obtain ⟨h_1, eh_1, hE⟩ := nm_e2 hE
  refine pf_X0_77 C hW hZ k_x0 (by decide) eh_1 dX0_run_2 (fun _ _ hW km hZ => ?_)
  replace hkl := hkl.tr km.l
  refine x_wc km ?_
  replace k_x0 := km.at k_x0 (by decide)
  refine lv_aload_n C.1 C.2.1 dX0_run_5 rfl (lv_at hl 0 rfl) ?_
  obtain ⟨o_2, eo_2, hE⟩ := cl_e hE
  have m1 := moX0_gatherSets eo_2
  have m2 := moX0_run_9 hE
  refine x_kI (o := o_2) (z_runV (As := []) (rest := []) C (ct_X0_gatherSets l X F k_x0 eo_2) cw_X0_81 hW hZ k_x0 (by decide) rfl rfl rfl hl.1 (Nat.le_of_ble_eq_true rfl) rfl dX0_run_6 ⟨Nat.le_of_ble_eq_true rfl, Nat.le_of_ble_eq_true rfl⟩ (rm_ok0 hkl m1 m2)) hZ (fun _ _ hW km hZ => ?_)
  replace hkl := hkl.tr km.l
  refine x_wc km ?_
  replace k_x0 := km.at k_x0 (by decide)
  exact bX0_run_9 C k_x0 hkl hW hZ _ (lv_sub hl [0] rfl) hE
