set_option maxRecDepth 100000 in
theorem ms_210 : Cond.selects RX15 yX15_worthNow yX15_worthNow ∈ W0 := w0_in (List.mem_append_left _ (List.mem_of_getElem? (i := 210) rfl)) rfl
set_option maxRecDepth 100000 in
theorem ms_205 : Cond.selects RX15 yX15_sizeOf yX15_sizeOf ∈ W0 := w0_in (List.mem_append_left _ (List.mem_of_getElem? (i := 205) rfl)) rfl
set_option maxRecDepth 100000 in
theorem m_2773 : Cond.methodLink RX15 801 yX15_sizeOf ∈ W0 := w0_in (List.mem_append_right _ (List.mem_of_getElem? (i := 2773) rfl)) rfl
set_option maxRecDepth 100000 in
theorem m_2775 : Cond.instanceMethod yX15_sizeOf ∈ W0 := w0_in (List.mem_append_right _ (List.mem_of_getElem? (i := 2775) rfl)) rfl
set_option maxRecDepth 100000 in
theorem m_2776 : Cond.code yX15_sizeOf cX15_sizeOf 4 (some .int) ∈ W0 := w0_in (List.mem_append_right _ (List.mem_of_getElem? (i := 2776) rfl)) rfl
set_option maxRecDepth 100000 in
theorem m_2798 : Cond.methodLink RX15 804 yX15_worthNow ∈ W0 := w0_in (List.mem_append_right _ (List.mem_of_getElem? (i := 2798) rfl)) rfl
set_option maxRecDepth 100000 in
theorem m_2800 : Cond.instanceMethod yX15_worthNow ∈ W0 := w0_in (List.mem_append_right _ (List.mem_of_getElem? (i := 2800) rfl)) rfl
set_option maxRecDepth 100000 in
theorem m_2801 : Cond.code yX15_worthNow cX15_worthNow 12 (some .int) ∈ W0 := w0_in (List.mem_append_right _ (List.mem_of_getElem? (i := 2801) rfl)) rfl
theorem cw_X15_804 : cwd RX15 804 yX15_worthNow cX15_worthNow 12 (some .int) false 3 := ⟨m_2801, m_2798, m_19, ⟨m_2800, ms_210⟩, by decide, by decide, by decide +kernel⟩
theorem cw_X15_801 : cwd RX15 801 yX15_sizeOf cX15_sizeOf 4 (some .int) false 1 := ⟨m_2776, m_2773, m_19, ⟨m_2775, ms_205⟩, by decide, by decide, by decide +kernel⟩
theorem dX15_workOut_0 : decode cX15_workOut 0 = .ok (.iconst 1, 1) := by decide +kernel
theorem dX15_workOut_1 : decode cX15_workOut 1 = .ok (.istore_n 1, 1) := by decide +kernel
theorem dX15_workOut_2 : decode cX15_workOut 2 = .ok (.iconst 1, 1) := by decide +kernel
theorem dX15_workOut_3 : decode cX15_workOut 3 = .ok (.istore_n 2, 1) := by decide +kernel
theorem dX15_workOut_4 : decode cX15_workOut 4 = .ok (.iload_n 2, 1) := by decide +kernel
theorem dX15_workOut_5 : decode cX15_workOut 5 = .ok (.ifCond .eq 104, 3) := by decide +kernel
theorem dX15_workOut_8 : decode cX15_workOut 8 = .ok (.iconst 0, 1) := by decide +kernel
theorem dX15_workOut_9 : decode cX15_workOut 9 = .ok (.istore_n 2, 1) := by decide +kernel
theorem dX15_workOut_10 : decode cX15_workOut 10 = .ok (.iconst 0, 1) := by decide +kernel
theorem dX15_workOut_11 : decode cX15_workOut 11 = .ok (.istore_n 3, 1) := by decide +kernel
theorem dX15_workOut_12 : decode cX15_workOut 12 = .ok (.iload_n 3, 1) := by decide +kernel
theorem dX15_workOut_13 : decode cX15_workOut 13 = .ok (.aload_n 0, 1) := by decide +kernel
theorem dX15_workOut_14 : decode cX15_workOut 14 = .ok (.getfield 751, 3) := by decide +kernel
theorem dX15_workOut_17 : decode cX15_workOut 17 = .ok (.if_icmp .ge 86, 3) := by decide +kernel
theorem dX15_workOut_20 : decode cX15_workOut 20 = .ok (.aload_n 0, 1) := by decide +kernel
theorem dX15_workOut_21 : decode cX15_workOut 21 = .ok (.iload_n 3, 1) := by decide +kernel
theorem dX15_workOut_22 : decode cX15_workOut 22 = .ok (.invokevirtual 801, 3) := by decide +kernel
theorem dX15_workOut_25 : decode cX15_workOut 25 = .ok (.istore 4, 2) := by decide +kernel
theorem dX15_workOut_27 : decode cX15_workOut 27 = .ok (.iconst 0, 1) := by decide +kernel
theorem dX15_workOut_28 : decode cX15_workOut 28 = .ok (.istore 5, 2) := by decide +kernel
theorem dX15_workOut_30 : decode cX15_workOut 30 = .ok (.iload 5, 2) := by decide +kernel
theorem dX15_workOut_32 : decode cX15_workOut 32 = .ok (.iload 4, 2) := by decide +kernel
theorem dX15_workOut_34 : decode cX15_workOut 34 = .ok (.if_icmp .ge 63, 3) := by decide +kernel
theorem dX15_workOut_37 : decode cX15_workOut 37 = .ok (.aload_n 0, 1) := by decide +kernel
theorem dX15_workOut_38 : decode cX15_workOut 38 = .ok (.getfield 339, 3) := by decide +kernel
theorem dX15_workOut_41 : decode cX15_workOut 41 = .ok (.iload_n 3, 1) := by decide +kernel
theorem dX15_workOut_42 : decode cX15_workOut 42 = .ok (.iaload, 1) := by decide +kernel
theorem dX15_workOut_43 : decode cX15_workOut 43 = .ok (.iload 5, 2) := by decide +kernel
theorem dX15_workOut_45 : decode cX15_workOut 45 = .ok (.iadd, 1) := by decide +kernel
theorem dX15_workOut_46 : decode cX15_workOut 46 = .ok (.istore 6, 2) := by decide +kernel
theorem dX15_workOut_48 : decode cX15_workOut 48 = .ok (.aload_n 0, 1) := by decide +kernel
theorem dX15_workOut_49 : decode cX15_workOut 49 = .ok (.getfield 343, 3) := by decide +kernel
theorem dX15_workOut_52 : decode cX15_workOut 52 = .ok (.iload 6, 2) := by decide +kernel
theorem dX15_workOut_54 : decode cX15_workOut 54 = .ok (.iaload, 1) := by decide +kernel
theorem dX15_workOut_55 : decode cX15_workOut 55 = .ok (.ldc_w 769, 3) := by decide +kernel
theorem dX15_workOut_58 : decode cX15_workOut 58 = .ok (.if_icmp .ne 14, 3) := by decide +kernel
theorem dX15_workOut_61 : decode cX15_workOut 61 = .ok (.aload_n 0, 1) := by decide +kernel
theorem dX15_workOut_62 : decode cX15_workOut 62 = .ok (.iload_n 3, 1) := by decide +kernel
theorem dX15_workOut_63 : decode cX15_workOut 63 = .ok (.iload 5, 2) := by decide +kernel
theorem dX15_workOut_65 : decode cX15_workOut 65 = .ok (.iload_n 1, 1) := by decide +kernel
theorem dX15_workOut_66 : decode cX15_workOut 66 = .ok (.invokevirtual 804, 3) := by decide +kernel
theorem dX15_workOut_69 : decode cX15_workOut 69 = .ok (.goto 4, 3) := by decide +kernel
theorem dX15_workOut_72 : decode cX15_workOut 72 = .ok (.iconst 0, 1) := by decide +kernel
theorem dX15_workOut_73 : decode cX15_workOut 73 = .ok (.istore 7, 2) := by decide +kernel
theorem dX15_workOut_75 : decode cX15_workOut 75 = .ok (.iload 7, 2) := by decide +kernel
theorem dX15_workOut_77 : decode cX15_workOut 77 = .ok (.ifCond .eq 14, 3) := by decide +kernel
theorem dX15_workOut_80 : decode cX15_workOut 80 = .ok (.aload_n 0, 1) := by decide +kernel
theorem dX15_workOut_81 : decode cX15_workOut 81 = .ok (.getfield 343, 3) := by decide +kernel
theorem dX15_workOut_84 : decode cX15_workOut 84 = .ok (.iload 6, 2) := by decide +kernel
theorem dX15_workOut_86 : decode cX15_workOut 86 = .ok (.iload 7, 2) := by decide +kernel
theorem dX15_workOut_88 : decode cX15_workOut 88 = .ok (.iastore, 1) := by decide +kernel
theorem dX15_workOut_89 : decode cX15_workOut 89 = .ok (.iconst 1, 1) := by decide +kernel
theorem dX15_workOut_90 : decode cX15_workOut 90 = .ok (.istore_n 2, 1) := by decide +kernel
theorem dX15_workOut_91 : decode cX15_workOut 91 = .ok (.iinc 5 1, 3) := by decide +kernel
theorem dX15_workOut_94 : decode cX15_workOut 94 = .ok (.goto (-64), 3) := by decide +kernel
theorem dX15_workOut_97 : decode cX15_workOut 97 = .ok (.iinc 3 1, 3) := by decide +kernel
theorem dX15_workOut_100 : decode cX15_workOut 100 = .ok (.goto (-88), 3) := by decide +kernel
theorem dX15_workOut_103 : decode cX15_workOut 103 = .ok (.iinc 1 1, 3) := by decide +kernel
theorem dX15_workOut_106 : decode cX15_workOut 106 = .ok (.goto (-102), 3) := by decide +kernel
theorem dX15_workOut_109 : decode cX15_workOut 109 = .ok (.iconst 0, 1) := by decide +kernel
theorem dX15_workOut_110 : decode cX15_workOut 110 = .ok (.istore_n 3, 1) := by decide +kernel
theorem dX15_workOut_111 : decode cX15_workOut 111 = .ok (.iload_n 3, 1) := by decide +kernel
theorem dX15_workOut_112 : decode cX15_workOut 112 = .ok (.i2l, 1) := by decide +kernel
theorem dX15_workOut_113 : decode cX15_workOut 113 = .ok (.aload_n 0, 1) := by decide +kernel
theorem dX15_workOut_114 : decode cX15_workOut 114 = .ok (.getfield 746, 3) := by decide +kernel
theorem dX15_workOut_117 : decode cX15_workOut 117 = .ok (.lcmp, 1) := by decide +kernel
theorem dX15_workOut_118 : decode cX15_workOut 118 = .ok (.ifCond .ge 37, 3) := by decide +kernel
theorem dX15_workOut_121 : decode cX15_workOut 121 = .ok (.aload_n 0, 1) := by decide +kernel
theorem dX15_workOut_122 : decode cX15_workOut 122 = .ok (.getfield 343, 3) := by decide +kernel
theorem dX15_workOut_125 : decode cX15_workOut 125 = .ok (.iload_n 3, 1) := by decide +kernel
theorem dX15_workOut_126 : decode cX15_workOut 126 = .ok (.aload_n 0, 1) := by decide +kernel
theorem dX15_workOut_127 : decode cX15_workOut 127 = .ok (.getfield 343, 3) := by decide +kernel
theorem dX15_workOut_130 : decode cX15_workOut 130 = .ok (.iload_n 3, 1) := by decide +kernel
theorem dX15_workOut_131 : decode cX15_workOut 131 = .ok (.iaload, 1) := by decide +kernel
theorem dX15_workOut_132 : decode cX15_workOut 132 = .ok (.ldc_w 769, 3) := by decide +kernel
theorem dX15_workOut_135 : decode cX15_workOut 135 = .ok (.if_icmp .ne 7, 3) := by decide +kernel
theorem dX15_workOut_138 : decode cX15_workOut 138 = .ok (.iconst 0, 1) := by decide +kernel
theorem dX15_workOut_139 : decode cX15_workOut 139 = .ok (.goto 9, 3) := by decide +kernel
theorem dX15_workOut_142 : decode cX15_workOut 142 = .ok (.aload_n 0, 1) := by decide +kernel
theorem dX15_workOut_143 : decode cX15_workOut 143 = .ok (.getfield 343, 3) := by decide +kernel
theorem dX15_workOut_146 : decode cX15_workOut 146 = .ok (.iload_n 3, 1) := by decide +kernel
theorem dX15_workOut_147 : decode cX15_workOut 147 = .ok (.iaload, 1) := by decide +kernel
theorem dX15_workOut_148 : decode cX15_workOut 148 = .ok (.iastore, 1) := by decide +kernel
theorem dX15_workOut_149 : decode cX15_workOut 149 = .ok (.iinc 3 1, 3) := by decide +kernel
theorem dX15_workOut_152 : decode cX15_workOut 152 = .ok (.goto (-41), 3) := by decide +kernel
theorem dX15_workOut_155 : decode cX15_workOut 155 = .ok (.return_, 1) := by decide +kernel
set_option maxRecDepth 20000 in
theorem moX15_workOut_148 {o : Hp} {k_111 : Hp → Nat → Int32 → Option (Hp)} {F : Nat} (mk_111 : ∀ (h : Hp) (x0 : Nat) (x3 : Int32), k_111 h x0 x3 = some o → Le h o) {h : Hp} {x0 : Nat} {x3 : Int32} {t0 : Int32} {t1 : Int32} {t2 : Nat} (hE : sX15_workOut_148 F k_111 h x0 x3 t0 t1 t2 = some o) : Le h o := by
  obtain ⟨g_1, hE⟩ := gd_e hE
  obtain ⟨h_2, eh_2, hE⟩ := nm_e2 hE
  refine (le_I eh_2).tr ?_
  obtain ⟨v_3, ev_3, hE⟩ := nm_e2 hE
  exact mk_111 _ _ _ hE
set_option maxRecDepth 20000 in
theorem moX15_workOut_111 {o : Hp} {F : Nat} : ∀ (f : Nat) {h : Hp} {x0 : Nat} {x3 : Int32}, sX15_workOut_111 F f h x0 x3 = some o → Le h o := by
  intro f
  induction f with
  | zero =>
    intro h x0 x3 hE
    rw [sX15_workOut_111] at hE
    cases hE
  | succ f ih =>
    intro h x0 x3 hE
    rw [sX15_workOut_111] at hE
    have mk_111 : ∀ (h : Hp) (x0 : Nat) (x3 : Int32), sX15_workOut_111 F f h x0 x3 = some o → Le h o := fun h x0 x3 hE => ih hE
    rcases br_e hE with ⟨_, hE⟩ | ⟨_, hE⟩
    · exact le_some1 hE
    · obtain ⟨r_2, er_2, hE⟩ := cl_e hE
      obtain ⟨r_3, er_3, hE⟩ := cl_e hE
      obtain ⟨g_4, hE⟩ := gd_e hE
      rcases br_e hE with ⟨_, hE⟩ | ⟨_, hE⟩
      · exact moX15_workOut_148 mk_111 hE
      · obtain ⟨r_6, er_6, hE⟩ := cl_e hE
        obtain ⟨g_7, hE⟩ := gd_e hE
        exact moX15_workOut_148 mk_111 hE
set_option maxRecDepth 20000 in
theorem moX15_workOut_91 {o : Hp} {k_4 : Hp → Nat → Int32 → Int32 → Option (Hp)} {k_12 : Hp → Nat → Int32 → Int32 → Int32 → Option (Hp)} {k_30 : Hp → Nat → Int32 → Int32 → Int32 → Int32 → Int32 → Option (Hp)} {F : Nat} (mk_4 : ∀ (h : Hp) (x0 : Nat) (x1 : Int32) (x2 : Int32), k_4 h x0 x1 x2 = some o → Le h o) (mk_12 : ∀ (h : Hp) (x0 : Nat) (x1 : Int32) (x2 : Int32) (x3 : Int32), k_12 h x0 x1 x2 x3 = some o → Le h o) (mk_30 : ∀ (h : Hp) (x0 : Nat) (x1 : Int32) (x2 : Int32) (x3 : Int32) (x4 : Int32) (x5 : Int32), k_30 h x0 x1 x2 x3 x4 x5 = some o → Le h o) {h : Hp} {x0 : Nat} {x1 : Int32} {x2 : Int32} {x3 : Int32} {x4 : Int32} {x5 : Int32} (hE : sX15_workOut_91 F k_4 k_12 k_30 h x0 x1 x2 x3 x4 x5 = some o) : Le h o := by
  obtain ⟨v_1, ev_1, hE⟩ := nm_e2 hE
  exact mk_30 _ _ _ _ _ _ _ hE
set_option maxRecDepth 20000 in
theorem moX15_workOut_73 {o : Hp} {k_4 : Hp → Nat → Int32 → Int32 → Option (Hp)} {k_12 : Hp → Nat → Int32 → Int32 → Int32 → Option (Hp)} {k_30 : Hp → Nat → Int32 → Int32 → Int32 → Int32 → Int32 → Option (Hp)} {F : Nat} (mk_4 : ∀ (h : Hp) (x0 : Nat) (x1 : Int32) (x2 : Int32), k_4 h x0 x1 x2 = some o → Le h o) (mk_12 : ∀ (h : Hp) (x0 : Nat) (x1 : Int32) (x2 : Int32) (x3 : Int32), k_12 h x0 x1 x2 x3 = some o → Le h o) (mk_30 : ∀ (h : Hp) (x0 : Nat) (x1 : Int32) (x2 : Int32) (x3 : Int32) (x4 : Int32) (x5 : Int32), k_30 h x0 x1 x2 x3 x4 x5 = some o → Le h o) {h : Hp} {x0 : Nat} {x1 : Int32} {x2 : Int32} {x3 : Int32} {x4 : Int32} {x5 : Int32} {x6 : Int32} {t0 : Int32} (hE : sX15_workOut_73 F k_4 k_12 k_30 h x0 x1 x2 x3 x4 x5 x6 t0 = some o) : Le h o := by
  rcases br_e hE with ⟨_, hE⟩ | ⟨_, hE⟩
  · exact moX15_workOut_91 mk_4 mk_12 mk_30 hE
  · obtain ⟨r_2, er_2, hE⟩ := cl_e hE
    obtain ⟨g_3, hE⟩ := gd_e hE
    obtain ⟨h_4, eh_4, hE⟩ := nm_e2 hE
    refine (le_I eh_4).tr ?_
    exact moX15_workOut_91 mk_4 mk_12 mk_30 hE
set_option maxRecDepth 20000 in
theorem moX15_workOut_30 {o : Hp} {k_4 : Hp → Nat → Int32 → Int32 → Option (Hp)} {k_12 : Hp → Nat → Int32 → Int32 → Int32 → Option (Hp)} {F : Nat} (mk_4 : ∀ (h : Hp) (x0 : Nat) (x1 : Int32) (x2 : Int32), k_4 h x0 x1 x2 = some o → Le h o) (mk_12 : ∀ (h : Hp) (x0 : Nat) (x1 : Int32) (x2 : Int32) (x3 : Int32), k_12 h x0 x1 x2 x3 = some o → Le h o) : ∀ (f : Nat) {h : Hp} {x0 : Nat} {x1 : Int32} {x2 : Int32} {x3 : Int32} {x4 : Int32} {x5 : Int32}, sX15_workOut_30 F k_4 k_12 f h x0 x1 x2 x3 x4 x5 = some o → Le h o := by
  intro f
  induction f with
  | zero =>
    intro h x0 x1 x2 x3 x4 x5 hE
    rw [sX15_workOut_30] at hE
    cases hE
  | succ f ih =>
    intro h x0 x1 x2 x3 x4 x5 hE
    rw [sX15_workOut_30] at hE
    have mk_30 : ∀ (h : Hp) (x0 : Nat) (x1 : Int32) (x2 : Int32) (x3 : Int32) (x4 : Int32) (x5 : Int32), sX15_workOut_30 F k_4 k_12 f h x0 x1 x2 x3 x4 x5 = some o → Le h o := fun h x0 x1 x2 x3 x4 x5 hE => ih hE
    rcases br_e hE with ⟨_, hE⟩ | ⟨_, hE⟩
    · obtain ⟨v_2, ev_2, hE⟩ := nm_e2 hE
      exact mk_12 _ _ _ _ _ hE
    · obtain ⟨r_3, er_3, hE⟩ := cl_e hE
      obtain ⟨g_4, hE⟩ := gd_e hE
      obtain ⟨v_5, ev_5, hE⟩ := nm_e2 hE
      obtain ⟨r_6, er_6, hE⟩ := cl_e hE
      obtain ⟨g_7, hE⟩ := gd_e hE
      rcases br_e hE with ⟨_, hE⟩ | ⟨_, hE⟩
      · obtain ⟨o_9, eo_9, hE⟩ := cl_e hE
        refine (moX15_worthNow eo_9).tr ?_
        exact moX15_workOut_73 mk_4 mk_12 mk_30 hE
      · exact moX15_workOut_73 mk_4 mk_12 mk_30 hE
set_option maxRecDepth 20000 in
theorem moX15_workOut_12 {o : Hp} {k_4 : Hp → Nat → Int32 → Int32 → Option (Hp)} {F : Nat} (mk_4 : ∀ (h : Hp) (x0 : Nat) (x1 : Int32) (x2 : Int32), k_4 h x0 x1 x2 = some o → Le h o) : ∀ (f : Nat) {h : Hp} {x0 : Nat} {x1 : Int32} {x2 : Int32} {x3 : Int32}, sX15_workOut_12 F k_4 f h x0 x1 x2 x3 = some o → Le h o := by
  intro f
  induction f with
  | zero =>
    intro h x0 x1 x2 x3 hE
    rw [sX15_workOut_12] at hE
    cases hE
  | succ f ih =>
    intro h x0 x1 x2 x3 hE
    rw [sX15_workOut_12] at hE
    have mk_12 : ∀ (h : Hp) (x0 : Nat) (x1 : Int32) (x2 : Int32) (x3 : Int32), sX15_workOut_12 F k_4 f h x0 x1 x2 x3 = some o → Le h o := fun h x0 x1 x2 x3 hE => ih hE
    rcases br_e hE with ⟨_, hE⟩ | ⟨_, hE⟩
    · obtain ⟨v_2, ev_2, hE⟩ := nm_e2 hE
      exact mk_4 _ _ _ _ hE
    · obtain ⟨o_3, eo_3, hE⟩ := cl_e hE
      refine (moX15_sizeOf eo_3).tr ?_
      exact moX15_workOut_30 mk_4 mk_12 _ hE
set_option maxRecDepth 20000 in
theorem moX15_workOut_4 {o : Hp} {F : Nat} : ∀ (f : Nat) {h : Hp} {x0 : Nat} {x1 : Int32} {x2 : Int32}, sX15_workOut_4 F f h x0 x1 x2 = some o → Le h o := by
  intro f
  induction f with
  | zero =>
    intro h x0 x1 x2 hE
    rw [sX15_workOut_4] at hE
    cases hE
  | succ f ih =>
    intro h x0 x1 x2 hE
    rw [sX15_workOut_4] at hE
    have mk_4 : ∀ (h : Hp) (x0 : Nat) (x1 : Int32) (x2 : Int32), sX15_workOut_4 F f h x0 x1 x2 = some o → Le h o := fun h x0 x1 x2 hE => ih hE
    rcases br_e hE with ⟨_, hE⟩ | ⟨_, hE⟩
    · exact moX15_workOut_111 _ hE
    · exact moX15_workOut_12 mk_4 _ hE
set_option maxRecDepth 20000 in
theorem moX15_workOut {o : Hp} {F : Nat} {h : Hp} {x0 : Nat} (hE : sX15_workOut F h x0 = some o) : Le h o := by
  exact moX15_workOut_4 _ hE
set_option maxRecDepth 20000 in
theorem bX15_workOut_148 {p : Program} {l : Launch} {e : Env} {s : State} {m : MethodId} {args : Array Value} {below : List Frame} {meth : Method} {c : Code} {X : Ec} {h0 : Hp} {o : Hp} {k_111 : Hp → Nat → Int32 → Option (Hp)} {F : Nat} (C : Cx X p s m args meth c RX15 cX15_workOut 8 none "workOut") (hk_111 : ∀ (h : Hp) (x0 : Nat) (x3 : Int32) (H : Heap) (locs : List Loc), hK h x0 = 15 → Km h0 h → Wx X h H → va_S (aA (eB X)) s.heap H locs → ∀ (ls : Array Slot), lv_has ls 8 [(0, .ref x0), (3, .int x3)] → k_111 h x0 x3 = some o → W p l e (rm 6 160) s m args below meth c H locs 0 0 (MQ below (QV X h0 o) args s 0 0 (aA (eB X))) (F0 m 111 ls [])) {h : Hp} {x0 : Nat} {x3 : Int32} {t0 : Int32} {t1 : Int32} {t2 : Nat} {H : Heap} {locs : List Loc} (k_x0 : hK h x0 = 15) (k_t2 : hK h t2 = 17) (hkm : Km h0 h) (hW : Wx X h H) (hZ : va_S (aA (eB X)) s.heap H locs) (ls : Array Slot) (hl : lv_has ls 8 [(0, .ref x0), (3, .int x3)]) (hE : sX15_workOut_148 F k_111 h x0 x3 t0 t1 t2 = some o) : W p l e (rm 6 160) s m args below meth c H locs 0 0 (MQ below (QV X h0 o) args s 0 0 (aA (eB X))) (F0 m 148 ls [.int t0, .int t1, .ref t2]) := by
  obtain ⟨g_1, hE⟩ := gd_e hE
  obtain ⟨h_2, eh_2, hE⟩ := nm_e2 hE
  refine y_iast C hW hZ k_t2 g_1 eh_2 dX15_workOut_148 (fun _ _ hW km hZ => ?_)
  replace hkm := hkm.tr km
  replace k_x0 := km.at k_x0 (by decide)
  obtain ⟨v_3, ev_3, hE⟩ := nm_e2 hE
  refine lv_iinc (v := v_3) (lv' := [(3, .int v_3), (0, .ref x0)]) C.1 C.2.1 dX15_workOut_149 hl (k := 1) rfl (by rw [ev_3]; rfl) (by decide) rfl (fun ls hl => ?_)
  refine lv_goto (tgt := 111) C.1 C.2.1 dX15_workOut_152 (by decide) ?_
  exact hk_111 _ _ _ _ _ k_x0 hkm hW hZ _ (lv_sub hl [1, 0] rfl) hE
set_option maxRecDepth 20000 in
theorem bX15_workOut_111 {p : Program} {l : Launch} {e : Env} {s : State} {m : MethodId} {args : Array Value} {below : List Frame} {meth : Method} {c : Code} {X : Ec} {h0 : Hp} {o : Hp} {F : Nat} (C : Cx X p s m args meth c RX15 cX15_workOut 8 none "workOut") : ∀ (f : Nat) {h : Hp} {x0 : Nat} {x3 : Int32} {H : Heap} {locs : List Loc} (k_x0 : hK h x0 = 15), Km h0 h → Wx X h H → va_S (aA (eB X)) s.heap H locs → ∀ (ls : Array Slot), lv_has ls 8 [(0, .ref x0), (3, .int x3)] → sX15_workOut_111 F f h x0 x3 = some o → W p l e (rm 6 160) s m args below meth c H locs 0 0 (MQ below (QV X h0 o) args s 0 0 (aA (eB X))) (F0 m 111 ls []) := by
  intro f
  induction f with
  | zero =>
    intro h x0 x3 H locs k_x0 hkm hW hZ ls hl hE
    rw [sX15_workOut_111] at hE
    cases hE
  | succ f ih =>
    intro h x0 x3 H locs k_x0 hkm hW hZ ls hl hE
    rw [sX15_workOut_111] at hE
    have hk_111 : ∀ (h : Hp) (x0 : Nat) (x3 : Int32) (H : Heap) (locs : List Loc), hK h x0 = 15 → Km h0 h → Wx X h H → va_S (aA (eB X)) s.heap H locs → ∀ (ls : Array Slot), lv_has ls 8 [(0, .ref x0), (3, .int x3)] → sX15_workOut_111 F f h x0 x3 = some o → W p l e (rm 6 160) s m args below meth c H locs 0 0 (MQ below (QV X h0 o) args s 0 0 (aA (eB X))) (F0 m 111 ls []) := fun h x0 x3 H locs k_x0 a b c ls hl hE => ih k_x0 a b c ls hl hE
    refine lv_iload_n C.1 C.2.1 dX15_workOut_111 rfl (lv_at hl 1 rfl) ?_
    refine lv_i2l C.1 C.2.1 dX15_workOut_112 rfl ?_
    refine lv_aload_n C.1 C.2.1 dX15_workOut_113 rfl (lv_at hl 0 rfl) ?_
    refine gf_X15_746 C hW k_x0 dX15_workOut_114 ?_
    refine W.lcmp C.1 C.2.1 dX15_workOut_117 ?_
    refine lv_if_ge (tgt := 155) C.1 C.2.1 dX15_workOut_118 (by decide) (fun c_1 => ?_) (fun c_1 => ?_)
    · have hE := br_p hE c_1
      exact x_vret C rfl hW hZ hkm hE dX15_workOut_155
    · have hE := br_n hE c_1
      refine lv_aload_n C.1 C.2.1 dX15_workOut_121 rfl (lv_at hl 0 rfl) ?_
      obtain ⟨r_2, er_2, hE⟩ := cl_e hE
      refine gf_X15_343 C hW k_x0 er_2 dX15_workOut_122 (fun k_r_2 => ?_)
      refine lv_iload_n C.1 C.2.1 dX15_workOut_125 rfl (lv_at hl 1 rfl) ?_
      refine lv_aload_n C.1 C.2.1 dX15_workOut_126 rfl (lv_at hl 0 rfl) ?_
      obtain ⟨r_3, er_3, hE⟩ := cl_e hE
      refine gf_X15_343 C hW k_x0 er_3 dX15_workOut_127 (fun k_r_3 => ?_)
      refine lv_iload_n C.1 C.2.1 dX15_workOut_130 rfl (lv_at hl 1 rfl) ?_
      obtain ⟨g_4, hE⟩ := gd_e hE
      refine y_iald C hW k_r_3 g_4 dX15_workOut_131 ?_
      refine lv_ldcw (v := (2000000 : Int32)) C.1 C.2.1 C.2.2.2.1 (C.2.2.2.2.1 _ m_2789) dX15_workOut_132 ?_
      refine lv_icmp_ne (tgt := 142) C.1 C.2.1 dX15_workOut_135 (by decide) (fun c_5 => ?_) (fun c_5 => ?_)
      · have hE := br_n hE c_5
        refine lv_aload_n C.1 C.2.1 dX15_workOut_142 rfl (lv_at hl 0 rfl) ?_
        obtain ⟨r_6, er_6, hE⟩ := cl_e hE
        refine gf_X15_343 C hW k_x0 er_6 dX15_workOut_143 (fun k_r_6 => ?_)
        refine lv_iload_n C.1 C.2.1 dX15_workOut_146 rfl (lv_at hl 1 rfl) ?_
        obtain ⟨g_7, hE⟩ := gd_e hE
        refine y_iald C hW k_r_6 g_7 dX15_workOut_147 ?_
        exact bX15_workOut_148 C hk_111 k_x0 k_r_2 hkm hW hZ _ (lv_sub hl [0, 1] rfl) hE
      · have hE := br_p hE c_5
        refine lv_iconst (v := (0 : Int32)) C.1 C.2.1 dX15_workOut_138 (by decide) ?_
        refine lv_goto (tgt := 148) C.1 C.2.1 dX15_workOut_139 (by decide) ?_
        exact bX15_workOut_148 C hk_111 k_x0 k_r_2 hkm hW hZ _ (lv_sub hl [0, 1] rfl) hE
set_option maxRecDepth 20000 in
theorem bX15_workOut_91 {p : Program} {l : Launch} {e : Env} {s : State} {m : MethodId} {args : Array Value} {below : List Frame} {meth : Method} {c : Code} {X : Ec} {h0 : Hp} {o : Hp} {k_4 : Hp → Nat → Int32 → Int32 → Option (Hp)} {k_12 : Hp → Nat → Int32 → Int32 → Int32 → Option (Hp)} {k_30 : Hp → Nat → Int32 → Int32 → Int32 → Int32 → Int32 → Option (Hp)} {F : Nat} (C : Cx X p s m args meth c RX15 cX15_workOut 8 none "workOut") (hk_4 : ∀ (h : Hp) (x0 : Nat) (x1 : Int32) (x2 : Int32) (H : Heap) (locs : List Loc), hK h x0 = 15 → Km h0 h → Wx X h H → va_S (aA (eB X)) s.heap H locs → ∀ (ls : Array Slot), lv_has ls 8 [(0, .ref x0), (1, .int x1), (2, .int x2)] → k_4 h x0 x1 x2 = some o → W p l e (rm 6 160) s m args below meth c H locs 0 0 (MQ below (QV X h0 o) args s 0 0 (aA (eB X))) (F0 m 4 ls [])) (hk_12 : ∀ (h : Hp) (x0 : Nat) (x1 : Int32) (x2 : Int32) (x3 : Int32) (H : Heap) (locs : List Loc), hK h x0 = 15 → Km h0 h → Wx X h H → va_S (aA (eB X)) s.heap H locs → ∀ (ls : Array Slot), lv_has ls 8 [(0, .ref x0), (1, .int x1), (2, .int x2), (3, .int x3)] → k_12 h x0 x1 x2 x3 = some o → W p l e (rm 6 160) s m args below meth c H locs 0 0 (MQ below (QV X h0 o) args s 0 0 (aA (eB X))) (F0 m 12 ls [])) (hk_30 : ∀ (h : Hp) (x0 : Nat) (x1 : Int32) (x2 : Int32) (x3 : Int32) (x4 : Int32) (x5 : Int32) (H : Heap) (locs : List Loc), hK h x0 = 15 → Km h0 h → Wx X h H → va_S (aA (eB X)) s.heap H locs → ∀ (ls : Array Slot), lv_has ls 8 [(0, .ref x0), (1, .int x1), (2, .int x2), (3, .int x3), (4, .int x4), (5, .int x5)] → k_30 h x0 x1 x2 x3 x4 x5 = some o → W p l e (rm 6 160) s m args below meth c H locs 0 0 (MQ below (QV X h0 o) args s 0 0 (aA (eB X))) (F0 m 30 ls [])) {h : Hp} {x0 : Nat} {x1 : Int32} {x2 : Int32} {x3 : Int32} {x4 : Int32} {x5 : Int32} {H : Heap} {locs : List Loc} (k_x0 : hK h x0 = 15) (hkm : Km h0 h) (hW : Wx X h H) (hZ : va_S (aA (eB X)) s.heap H locs) (ls : Array Slot) (hl : lv_has ls 8 [(0, .ref x0), (1, .int x1), (2, .int x2), (3, .int x3), (4, .int x4), (5, .int x5)]) (hE : sX15_workOut_91 F k_4 k_12 k_30 h x0 x1 x2 x3 x4 x5 = some o) : W p l e (rm 6 160) s m args below meth c H locs 0 0 (MQ below (QV X h0 o) args s 0 0 (aA (eB X))) (F0 m 91 ls []) := by
  obtain ⟨v_1, ev_1, hE⟩ := nm_e2 hE
  refine lv_iinc (v := v_1) (lv' := [(5, .int v_1), (0, .ref x0), (1, .int x1), (2, .int x2), (3, .int x3), (4, .int x4)]) C.1 C.2.1 dX15_workOut_91 hl (k := 5) rfl (by rw [ev_1]; rfl) (by decide) rfl (fun ls hl => ?_)
  refine lv_goto (tgt := 30) C.1 C.2.1 dX15_workOut_94 (by decide) ?_
  exact hk_30 _ _ _ _ _ _ _ _ _ k_x0 hkm hW hZ _ (lv_sub hl [1, 2, 3, 4, 5, 0] rfl) hE
set_option maxRecDepth 20000 in
theorem bX15_workOut_73 {p : Program} {l : Launch} {e : Env} {s : State} {m : MethodId} {args : Array Value} {below : List Frame} {meth : Method} {c : Code} {X : Ec} {h0 : Hp} {o : Hp} {k_4 : Hp → Nat → Int32 → Int32 → Option (Hp)} {k_12 : Hp → Nat → Int32 → Int32 → Int32 → Option (Hp)} {k_30 : Hp → Nat → Int32 → Int32 → Int32 → Int32 → Int32 → Option (Hp)} {F : Nat} (C : Cx X p s m args meth c RX15 cX15_workOut 8 none "workOut") (hk_4 : ∀ (h : Hp) (x0 : Nat) (x1 : Int32) (x2 : Int32) (H : Heap) (locs : List Loc), hK h x0 = 15 → Km h0 h → Wx X h H → va_S (aA (eB X)) s.heap H locs → ∀ (ls : Array Slot), lv_has ls 8 [(0, .ref x0), (1, .int x1), (2, .int x2)] → k_4 h x0 x1 x2 = some o → W p l e (rm 6 160) s m args below meth c H locs 0 0 (MQ below (QV X h0 o) args s 0 0 (aA (eB X))) (F0 m 4 ls [])) (hk_12 : ∀ (h : Hp) (x0 : Nat) (x1 : Int32) (x2 : Int32) (x3 : Int32) (H : Heap) (locs : List Loc), hK h x0 = 15 → Km h0 h → Wx X h H → va_S (aA (eB X)) s.heap H locs → ∀ (ls : Array Slot), lv_has ls 8 [(0, .ref x0), (1, .int x1), (2, .int x2), (3, .int x3)] → k_12 h x0 x1 x2 x3 = some o → W p l e (rm 6 160) s m args below meth c H locs 0 0 (MQ below (QV X h0 o) args s 0 0 (aA (eB X))) (F0 m 12 ls [])) (hk_30 : ∀ (h : Hp) (x0 : Nat) (x1 : Int32) (x2 : Int32) (x3 : Int32) (x4 : Int32) (x5 : Int32) (H : Heap) (locs : List Loc), hK h x0 = 15 → Km h0 h → Wx X h H → va_S (aA (eB X)) s.heap H locs → ∀ (ls : Array Slot), lv_has ls 8 [(0, .ref x0), (1, .int x1), (2, .int x2), (3, .int x3), (4, .int x4), (5, .int x5)] → k_30 h x0 x1 x2 x3 x4 x5 = some o → W p l e (rm 6 160) s m args below meth c H locs 0 0 (MQ below (QV X h0 o) args s 0 0 (aA (eB X))) (F0 m 30 ls [])) {h : Hp} {x0 : Nat} {x1 : Int32} {x2 : Int32} {x3 : Int32} {x4 : Int32} {x5 : Int32} {x6 : Int32} {t0 : Int32} {H : Heap} {locs : List Loc} (k_x0 : hK h x0 = 15) (hkm : Km h0 h) (hW : Wx X h H) (hZ : va_S (aA (eB X)) s.heap H locs) (ls : Array Slot) (hl : lv_has ls 8 [(0, .ref x0), (1, .int x1), (2, .int x2), (3, .int x3), (4, .int x4), (5, .int x5), (6, .int x6)]) (hE : sX15_workOut_73 F k_4 k_12 k_30 h x0 x1 x2 x3 x4 x5 x6 t0 = some o) : W p l e (rm 6 160) s m args below meth c H locs 0 0 (MQ below (QV X h0 o) args s 0 0 (aA (eB X))) (F0 m 73 ls [.int t0]) := by
  refine lv_istore (lv' := [(7, .int t0), (0, .ref x0), (1, .int x1), (2, .int x2), (3, .int x3), (4, .int x4), (5, .int x5), (6, .int x6)]) C.1 C.2.1 dX15_workOut_73 hl (by decide) rfl (fun ls hl => ?_)
  refine lv_iload C.1 C.2.1 dX15_workOut_75 (lv_at hl 0 rfl) ?_
  refine lv_if_eq (tgt := 91) C.1 C.2.1 dX15_workOut_77 (by decide) (fun c_1 => ?_) (fun c_1 => ?_)
  · have hE := br_p hE c_1
    exact bX15_workOut_91 C hk_4 hk_12 hk_30 k_x0 hkm hW hZ _ (lv_sub hl [1, 2, 3, 4, 5, 6] rfl) hE
  · have hE := br_n hE c_1
    refine lv_aload_n C.1 C.2.1 dX15_workOut_80 rfl (lv_at hl 1 rfl) ?_
    obtain ⟨r_2, er_2, hE⟩ := cl_e hE
    refine gf_X15_343 C hW k_x0 er_2 dX15_workOut_81 (fun k_r_2 => ?_)
    refine lv_iload C.1 C.2.1 dX15_workOut_84 (lv_at hl 7 rfl) ?_
    refine lv_iload C.1 C.2.1 dX15_workOut_86 (lv_at hl 0 rfl) ?_
    obtain ⟨g_3, hE⟩ := gd_e hE
    obtain ⟨h_4, eh_4, hE⟩ := nm_e2 hE
    refine y_iast C hW hZ k_r_2 g_3 eh_4 dX15_workOut_88 (fun _ _ hW km hZ => ?_)
    replace hkm := hkm.tr km
    replace k_x0 := km.at k_x0 (by decide)
    refine lv_iconst (v := (1 : Int32)) C.1 C.2.1 dX15_workOut_89 (by decide) ?_
    refine lv_istore_n (lv' := [(2, .int (1 : Int32)), (7, .int t0), (0, .ref x0), (1, .int x1), (3, .int x3), (4, .int x4), (5, .int x5), (6, .int x6)]) C.1 C.2.1 dX15_workOut_90 rfl hl (by decide) rfl (fun ls hl => ?_)
    exact bX15_workOut_91 C hk_4 hk_12 hk_30 k_x0 hkm hW hZ _ (lv_sub hl [2, 3, 0, 4, 5, 6] rfl) hE
set_option maxRecDepth 20000 in
theorem bX15_workOut_30 {p : Program} {l : Launch} {e : Env} {s : State} {m : MethodId} {args : Array Value} {below : List Frame} {meth : Method} {c : Code} {X : Ec} {h0 : Hp} {o : Hp} {k_4 : Hp → Nat → Int32 → Int32 → Option (Hp)} {k_12 : Hp → Nat → Int32 → Int32 → Int32 → Option (Hp)} {F : Nat} (C : Cx X p s m args meth c RX15 cX15_workOut 8 none "workOut") (hk_4 : ∀ (h : Hp) (x0 : Nat) (x1 : Int32) (x2 : Int32) (H : Heap) (locs : List Loc), hK h x0 = 15 → Km h0 h → Wx X h H → va_S (aA (eB X)) s.heap H locs → ∀ (ls : Array Slot), lv_has ls 8 [(0, .ref x0), (1, .int x1), (2, .int x2)] → k_4 h x0 x1 x2 = some o → W p l e (rm 6 160) s m args below meth c H locs 0 0 (MQ below (QV X h0 o) args s 0 0 (aA (eB X))) (F0 m 4 ls [])) (hk_12 : ∀ (h : Hp) (x0 : Nat) (x1 : Int32) (x2 : Int32) (x3 : Int32) (H : Heap) (locs : List Loc), hK h x0 = 15 → Km h0 h → Wx X h H → va_S (aA (eB X)) s.heap H locs → ∀ (ls : Array Slot), lv_has ls 8 [(0, .ref x0), (1, .int x1), (2, .int x2), (3, .int x3)] → k_12 h x0 x1 x2 x3 = some o → W p l e (rm 6 160) s m args below meth c H locs 0 0 (MQ below (QV X h0 o) args s 0 0 (aA (eB X))) (F0 m 12 ls [])) : ∀ (f : Nat) {h : Hp} {x0 : Nat} {x1 : Int32} {x2 : Int32} {x3 : Int32} {x4 : Int32} {x5 : Int32} {H : Heap} {locs : List Loc} (k_x0 : hK h x0 = 15), Km h0 h → Wx X h H → va_S (aA (eB X)) s.heap H locs → ∀ (ls : Array Slot), lv_has ls 8 [(0, .ref x0), (1, .int x1), (2, .int x2), (3, .int x3), (4, .int x4), (5, .int x5)] → sX15_workOut_30 F k_4 k_12 f h x0 x1 x2 x3 x4 x5 = some o → W p l e (rm 6 160) s m args below meth c H locs 0 0 (MQ below (QV X h0 o) args s 0 0 (aA (eB X))) (F0 m 30 ls []) := by
  intro f
  induction f with
  | zero =>
    intro h x0 x1 x2 x3 x4 x5 H locs k_x0 hkm hW hZ ls hl hE
    rw [sX15_workOut_30] at hE
    cases hE
  | succ f ih =>
    intro h x0 x1 x2 x3 x4 x5 H locs k_x0 hkm hW hZ ls hl hE
    rw [sX15_workOut_30] at hE
    have hk_30 : ∀ (h : Hp) (x0 : Nat) (x1 : Int32) (x2 : Int32) (x3 : Int32) (x4 : Int32) (x5 : Int32) (H : Heap) (locs : List Loc), hK h x0 = 15 → Km h0 h → Wx X h H → va_S (aA (eB X)) s.heap H locs → ∀ (ls : Array Slot), lv_has ls 8 [(0, .ref x0), (1, .int x1), (2, .int x2), (3, .int x3), (4, .int x4), (5, .int x5)] → sX15_workOut_30 F k_4 k_12 f h x0 x1 x2 x3 x4 x5 = some o → W p l e (rm 6 160) s m args below meth c H locs 0 0 (MQ below (QV X h0 o) args s 0 0 (aA (eB X))) (F0 m 30 ls []) := fun h x0 x1 x2 x3 x4 x5 H locs k_x0 a b c ls hl hE => ih k_x0 a b c ls hl hE
    refine lv_iload C.1 C.2.1 dX15_workOut_30 (lv_at hl 5 rfl) ?_
    refine lv_iload C.1 C.2.1 dX15_workOut_32 (lv_at hl 4 rfl) ?_
    refine lv_icmp_ge (tgt := 97) C.1 C.2.1 dX15_workOut_34 (by decide) (fun c_1 => ?_) (fun c_1 => ?_)
    · have hE := br_p hE c_1
      obtain ⟨v_2, ev_2, hE⟩ := nm_e2 hE
      refine lv_iinc (v := v_2) (lv' := [(3, .int v_2), (0, .ref x0), (1, .int x1), (2, .int x2), (4, .int x4), (5, .int x5)]) C.1 C.2.1 dX15_workOut_97 hl (k := 3) rfl (by rw [ev_2]; rfl) (by decide) rfl (fun ls hl => ?_)
      refine lv_goto (tgt := 12) C.1 C.2.1 dX15_workOut_100 (by decide) ?_
      exact hk_12 _ _ _ _ _ _ _ k_x0 hkm hW hZ _ (lv_sub hl [1, 2, 3, 0] rfl) hE
    · have hE := br_n hE c_1
      refine lv_aload_n C.1 C.2.1 dX15_workOut_37 rfl (lv_at hl 0 rfl) ?_
      obtain ⟨r_3, er_3, hE⟩ := cl_e hE
      refine gf_X15_339 C hW k_x0 er_3 dX15_workOut_38 (fun k_r_3 => ?_)
      refine lv_iload_n C.1 C.2.1 dX15_workOut_41 rfl (lv_at hl 3 rfl) ?_
      obtain ⟨g_4, hE⟩ := gd_e hE
      refine y_iald C hW k_r_3 g_4 dX15_workOut_42 ?_
      refine lv_iload C.1 C.2.1 dX15_workOut_43 (lv_at hl 5 rfl) ?_
      refine lv_iadd C.1 C.2.1 dX15_workOut_45 ?_
      obtain ⟨v_5, ev_5, hE⟩ := nm_e2 hE
      refine x_nmI ev_5 ?_
      refine lv_istore (lv' := [(6, .int v_5), (0, .ref x0), (1, .int x1), (2, .int x2), (3, .int x3), (4, .int x4), (5, .int x5)]) C.1 C.2.1 dX15_workOut_46 hl (by decide) rfl (fun ls hl => ?_)
      refine lv_aload_n C.1 C.2.1 dX15_workOut_48 rfl (lv_at hl 1 rfl) ?_
      obtain ⟨r_6, er_6, hE⟩ := cl_e hE
      refine gf_X15_343 C hW k_x0 er_6 dX15_workOut_49 (fun k_r_6 => ?_)
      refine lv_iload C.1 C.2.1 dX15_workOut_52 (lv_at hl 0 rfl) ?_
      obtain ⟨g_7, hE⟩ := gd_e hE
      refine y_iald C hW k_r_6 g_7 dX15_workOut_54 ?_
      refine lv_ldcw (v := (2000000 : Int32)) C.1 C.2.1 C.2.2.2.1 (C.2.2.2.2.1 _ m_2789) dX15_workOut_55 ?_
      refine lv_icmp_ne (tgt := 72) C.1 C.2.1 dX15_workOut_58 (by decide) (fun c_8 => ?_) (fun c_8 => ?_)
      · have hE := br_n hE c_8
        refine lv_iconst (v := (0 : Int32)) C.1 C.2.1 dX15_workOut_72 (by decide) ?_
        exact bX15_workOut_73 C hk_4 hk_12 hk_30 k_x0 hkm hW hZ _ (lv_sub hl [1, 2, 3, 4, 5, 6, 0] rfl) hE
      · have hE := br_p hE c_8
        refine lv_aload_n C.1 C.2.1 dX15_workOut_61 rfl (lv_at hl 1 rfl) ?_
        refine lv_iload_n C.1 C.2.1 dX15_workOut_62 rfl (lv_at hl 4 rfl) ?_
        refine lv_iload C.1 C.2.1 dX15_workOut_63 (lv_at hl 6 rfl) ?_
        refine lv_iload_n C.1 C.2.1 dX15_workOut_65 rfl (lv_at hl 2 rfl) ?_
        obtain ⟨o_9, eo_9, hE⟩ := cl_e hE
        refine x_kI (o := o_9) (z_runV (As := [.int x3, .int x5, .int x1]) (rest := []) C (ct_X15_worthNow l X F k_x0 eo_9) cw_X15_804 hW hZ k_x0 (by decide) rfl rfl rfl hl.1 (Nat.le_of_ble_eq_true rfl) rfl dX15_workOut_66 ⟨Nat.le_of_ble_eq_true rfl, Nat.le_of_ble_eq_true rfl⟩ ⟨Nat.le_refl _, Nat.le_refl _⟩) hZ (fun _ _ hW km hZ => ?_)
        replace hkm := hkm.tr km
        replace k_x0 := km.at k_x0 (by decide)
        refine lv_goto (tgt := 73) C.1 C.2.1 dX15_workOut_69 (by decide) ?_
        exact bX15_workOut_73 C hk_4 hk_12 hk_30 k_x0 hkm hW hZ _ (lv_sub hl [1, 2, 3, 4, 5, 6, 0] rfl) hE
set_option maxRecDepth 20000 in
theorem bX15_workOut_12 {p : Program} {l : Launch} {e : Env} {s : State} {m : MethodId} {args : Array Value} {below : List Frame} {meth : Method} {c : Code} {X : Ec} {h0 : Hp} {o : Hp} {k_4 : Hp → Nat → Int32 → Int32 → Option (Hp)} {F : Nat} (C : Cx X p s m args meth c RX15 cX15_workOut 8 none "workOut") (hk_4 : ∀ (h : Hp) (x0 : Nat) (x1 : Int32) (x2 : Int32) (H : Heap) (locs : List Loc), hK h x0 = 15 → Km h0 h → Wx X h H → va_S (aA (eB X)) s.heap H locs → ∀ (ls : Array Slot), lv_has ls 8 [(0, .ref x0), (1, .int x1), (2, .int x2)] → k_4 h x0 x1 x2 = some o → W p l e (rm 6 160) s m args below meth c H locs 0 0 (MQ below (QV X h0 o) args s 0 0 (aA (eB X))) (F0 m 4 ls [])) : ∀ (f : Nat) {h : Hp} {x0 : Nat} {x1 : Int32} {x2 : Int32} {x3 : Int32} {H : Heap} {locs : List Loc} (k_x0 : hK h x0 = 15), Km h0 h → Wx X h H → va_S (aA (eB X)) s.heap H locs → ∀ (ls : Array Slot), lv_has ls 8 [(0, .ref x0), (1, .int x1), (2, .int x2), (3, .int x3)] → sX15_workOut_12 F k_4 f h x0 x1 x2 x3 = some o → W p l e (rm 6 160) s m args below meth c H locs 0 0 (MQ below (QV X h0 o) args s 0 0 (aA (eB X))) (F0 m 12 ls []) := by
  intro f
  induction f with
  | zero =>
    intro h x0 x1 x2 x3 H locs k_x0 hkm hW hZ ls hl hE
    rw [sX15_workOut_12] at hE
    cases hE
  | succ f ih =>
    intro h x0 x1 x2 x3 H locs k_x0 hkm hW hZ ls hl hE
    rw [sX15_workOut_12] at hE
    have hk_12 : ∀ (h : Hp) (x0 : Nat) (x1 : Int32) (x2 : Int32) (x3 : Int32) (H : Heap) (locs : List Loc), hK h x0 = 15 → Km h0 h → Wx X h H → va_S (aA (eB X)) s.heap H locs → ∀ (ls : Array Slot), lv_has ls 8 [(0, .ref x0), (1, .int x1), (2, .int x2), (3, .int x3)] → sX15_workOut_12 F k_4 f h x0 x1 x2 x3 = some o → W p l e (rm 6 160) s m args below meth c H locs 0 0 (MQ below (QV X h0 o) args s 0 0 (aA (eB X))) (F0 m 12 ls []) := fun h x0 x1 x2 x3 H locs k_x0 a b c ls hl hE => ih k_x0 a b c ls hl hE
    refine lv_iload_n C.1 C.2.1 dX15_workOut_12 rfl (lv_at hl 3 rfl) ?_
    refine lv_aload_n C.1 C.2.1 dX15_workOut_13 rfl (lv_at hl 0 rfl) ?_
    refine gf_X15_751 C hW k_x0 dX15_workOut_14 ?_
    refine lv_icmp_ge (tgt := 103) C.1 C.2.1 dX15_workOut_17 (by decide) (fun c_1 => ?_) (fun c_1 => ?_)
    · have hE := br_p hE c_1
      obtain ⟨v_2, ev_2, hE⟩ := nm_e2 hE
      refine lv_iinc (v := v_2) (lv' := [(1, .int v_2), (0, .ref x0), (2, .int x2), (3, .int x3)]) C.1 C.2.1 dX15_workOut_103 hl (k := 1) rfl (by rw [ev_2]; rfl) (by decide) rfl (fun ls hl => ?_)
      refine lv_goto (tgt := 4) C.1 C.2.1 dX15_workOut_106 (by decide) ?_
      exact hk_4 _ _ _ _ _ _ k_x0 hkm hW hZ _ (lv_sub hl [1, 0, 2] rfl) hE
    · have hE := br_n hE c_1
      refine lv_aload_n C.1 C.2.1 dX15_workOut_20 rfl (lv_at hl 0 rfl) ?_
      refine lv_iload_n C.1 C.2.1 dX15_workOut_21 rfl (lv_at hl 3 rfl) ?_
      obtain ⟨o_3, eo_3, hE⟩ := cl_e hE
      refine x_kI (o := o_3) (z_runV (As := [.int x3]) (rest := []) C (ct_X15_sizeOf l X F k_x0 eo_3) cw_X15_801 hW hZ k_x0 (by decide) rfl rfl rfl hl.1 (Nat.le_of_ble_eq_true rfl) rfl dX15_workOut_22 ⟨Nat.le_of_ble_eq_true rfl, Nat.le_of_ble_eq_true rfl⟩ ⟨Nat.le_refl _, Nat.le_refl _⟩) hZ (fun _ _ hW km hZ => ?_)
      replace hkm := hkm.tr km
      replace k_x0 := km.at k_x0 (by decide)
      refine lv_istore (lv' := [(4, .int o_3.1), (0, .ref x0), (1, .int x1), (2, .int x2), (3, .int x3)]) C.1 C.2.1 dX15_workOut_25 hl (by decide) rfl (fun ls hl => ?_)
      refine lv_iconst (v := (0 : Int32)) C.1 C.2.1 dX15_workOut_27 (by decide) ?_
      refine lv_istore (lv' := [(5, .int (0 : Int32)), (4, .int o_3.1), (0, .ref x0), (1, .int x1), (2, .int x2), (3, .int x3)]) C.1 C.2.1 dX15_workOut_28 hl (by decide) rfl (fun ls hl => ?_)
      exact bX15_workOut_30 C hk_4 hk_12 F k_x0 hkm hW hZ _ (lv_sub hl [2, 3, 4, 5, 1, 0] rfl) hE
set_option maxRecDepth 20000 in
theorem bX15_workOut_4 {p : Program} {l : Launch} {e : Env} {s : State} {m : MethodId} {args : Array Value} {below : List Frame} {meth : Method} {c : Code} {X : Ec} {h0 : Hp} {o : Hp} {F : Nat} (C : Cx X p s m args meth c RX15 cX15_workOut 8 none "workOut") : ∀ (f : Nat) {h : Hp} {x0 : Nat} {x1 : Int32} {x2 : Int32} {H : Heap} {locs : List Loc} (k_x0 : hK h x0 = 15), Km h0 h → Wx X h H → va_S (aA (eB X)) s.heap H locs → ∀ (ls : Array Slot), lv_has ls 8 [(0, .ref x0), (1, .int x1), (2, .int x2)] → sX15_workOut_4 F f h x0 x1 x2 = some o → W p l e (rm 6 160) s m args below meth c H locs 0 0 (MQ below (QV X h0 o) args s 0 0 (aA (eB X))) (F0 m 4 ls []) := by
  intro f
  induction f with
  | zero =>
    intro h x0 x1 x2 H locs k_x0 hkm hW hZ ls hl hE
    rw [sX15_workOut_4] at hE
    cases hE
  | succ f ih =>
    intro h x0 x1 x2 H locs k_x0 hkm hW hZ ls hl hE
    rw [sX15_workOut_4] at hE
    have hk_4 : ∀ (h : Hp) (x0 : Nat) (x1 : Int32) (x2 : Int32) (H : Heap) (locs : List Loc), hK h x0 = 15 → Km h0 h → Wx X h H → va_S (aA (eB X)) s.heap H locs → ∀ (ls : Array Slot), lv_has ls 8 [(0, .ref x0), (1, .int x1), (2, .int x2)] → sX15_workOut_4 F f h x0 x1 x2 = some o → W p l e (rm 6 160) s m args below meth c H locs 0 0 (MQ below (QV X h0 o) args s 0 0 (aA (eB X))) (F0 m 4 ls []) := fun h x0 x1 x2 H locs k_x0 a b c ls hl hE => ih k_x0 a b c ls hl hE
    refine lv_iload_n C.1 C.2.1 dX15_workOut_4 rfl (lv_at hl 2 rfl) ?_
    refine lv_if_eq (tgt := 109) C.1 C.2.1 dX15_workOut_5 (by decide) (fun c_1 => ?_) (fun c_1 => ?_)
    · have hE := br_p hE c_1
      refine lv_iconst (v := (0 : Int32)) C.1 C.2.1 dX15_workOut_109 (by decide) ?_
      refine lv_istore_n (lv' := [(3, .int (0 : Int32)), (0, .ref x0), (1, .int x1), (2, .int x2)]) C.1 C.2.1 dX15_workOut_110 rfl hl (by decide) rfl (fun ls hl => ?_)
      exact bX15_workOut_111 C F k_x0 hkm hW hZ _ (lv_sub hl [1, 0] rfl) hE
    · have hE := br_n hE c_1
      refine lv_iconst (v := (0 : Int32)) C.1 C.2.1 dX15_workOut_8 (by decide) ?_
      refine lv_istore_n (lv' := [(2, .int (0 : Int32)), (0, .ref x0), (1, .int x1)]) C.1 C.2.1 dX15_workOut_9 rfl hl (by decide) rfl (fun ls hl => ?_)
      refine lv_iconst (v := (0 : Int32)) C.1 C.2.1 dX15_workOut_10 (by decide) ?_
      refine lv_istore_n (lv' := [(3, .int (0 : Int32)), (2, .int (0 : Int32)), (0, .ref x0), (1, .int x1)]) C.1 C.2.1 dX15_workOut_11 rfl hl (by decide) rfl (fun ls hl => ?_)
      exact bX15_workOut_12 C hk_4 F k_x0 hkm hW hZ _ (lv_sub hl [2, 3, 1, 0] rfl) hE
set_option maxRecDepth 20000 in
theorem ct_X15_workOut (l : Launch) (X : Ec) (F : Nat) {h : Hp} {x0 : Nat} {o : Hp} (k_x0 : hK h x0 = 15) (hE : sX15_workOut F h x0 = some o) : MetV l yX15_workOut cX15_workOut 8 none 6 160 X [.ref x0] h o := by
  refine x_met (by decide) (Nat.le_of_ble_eq_true rfl) ?_
  intro p e s m below meth c ls C hl hW hZ
  have hl : lv_has ls 8 [(0, .ref x0)] := hl
  have hkm : Km h h := Km.rf h
  refine lv_iconst (v := (1 : Int32)) C.1 C.2.1 dX15_workOut_0 (by decide) ?_
  refine lv_istore_n (lv' := [(1, .int (1 : Int32)), (0, .ref x0)]) C.1 C.2.1 dX15_workOut_1 rfl hl (by decide) rfl (fun ls hl => ?_)
  refine lv_iconst (v := (1 : Int32)) C.1 C.2.1 dX15_workOut_2 (by decide) ?_
  refine lv_istore_n (lv' := [(2, .int (1 : Int32)), (1, .int (1 : Int32)), (0, .ref x0)]) C.1 C.2.1 dX15_workOut_3 rfl hl (by decide) rfl (fun ls hl => ?_)
  exact bX15_workOut_4 C F k_x0 hkm hW hZ _ (lv_sub hl [2, 1, 0] rfl) hE
set_option maxRecDepth 100000 in
theorem ms_209 : Cond.selects RX15 yX15_workOut yX15_workOut ∈ W0 := w0_in (List.mem_append_left _ (List.mem_of_getElem? (i := 209) rfl)) rfl
set_option maxRecDepth 100000 in
theorem ms_206 : Cond.selects RX15 yX15_begin yX15_begin ∈ W0 := w0_in (List.mem_append_left _ (List.mem_of_getElem? (i := 206) rfl)) rfl
set_option maxRecDepth 100000 in
theorem ms_203 : Cond.selects RX15 yX15_addAll yX15_addAll ∈ W0 := w0_in (List.mem_append_left _ (List.mem_of_getElem? (i := 203) rfl)) rfl
set_option maxRecDepth 100000 in
theorem ms_199 : Cond.selects RX15 yX15_hasCatches yX15_hasCatches ∈ W0 := w0_in (List.mem_append_left _ (List.mem_of_getElem? (i := 199) rfl)) rfl
set_option maxRecDepth 100000 in
theorem m_2743 : Cond.methodLink RX15 807 yX15_hasCatches ∈ W0 := w0_in (List.mem_append_right _ (List.mem_of_getElem? (i := 2743) rfl)) rfl
set_option maxRecDepth 100000 in
theorem m_2745 : Cond.instanceMethod yX15_hasCatches ∈ W0 := w0_in (List.mem_append_right _ (List.mem_of_getElem? (i := 2745) rfl)) rfl
set_option maxRecDepth 100000 in
theorem m_2746 : Cond.code yX15_hasCatches cX15_hasCatches 3 (some .boolean) ∈ W0 := w0_in (List.mem_append_right _ (List.mem_of_getElem? (i := 2746) rfl)) rfl
set_option maxRecDepth 100000 in
theorem m_2765 : Cond.methodLink RX15 810 yX15_addAll ∈ W0 := w0_in (List.mem_append_right _ (List.mem_of_getElem? (i := 2765) rfl)) rfl
set_option maxRecDepth 100000 in
theorem m_2767 : Cond.instanceMethod yX15_addAll ∈ W0 := w0_in (List.mem_append_right _ (List.mem_of_getElem? (i := 2767) rfl)) rfl
set_option maxRecDepth 100000 in
theorem m_2768 : Cond.code yX15_addAll cX15_addAll 6 (some .boolean) ∈ W0 := w0_in (List.mem_append_right _ (List.mem_of_getElem? (i := 2768) rfl)) rfl
set_option maxRecDepth 100000 in
theorem m_2777 : Cond.constant RX15 813 (1500000 : Int32) ∈ W0 := w0_in (List.mem_append_right _ (List.mem_of_getElem? (i := 2777) rfl)) rfl
set_option maxRecDepth 100000 in
theorem m_2778 : Cond.methodLink RX15 814 yX15_begin ∈ W0 := w0_in (List.mem_append_right _ (List.mem_of_getElem? (i := 2778) rfl)) rfl
set_option maxRecDepth 100000 in
theorem m_2780 : Cond.instanceMethod yX15_begin ∈ W0 := w0_in (List.mem_append_right _ (List.mem_of_getElem? (i := 2780) rfl)) rfl
set_option maxRecDepth 100000 in
theorem m_2781 : Cond.code yX15_begin cX15_begin 9 none ∈ W0 := w0_in (List.mem_append_right _ (List.mem_of_getElem? (i := 2781) rfl)) rfl
set_option maxRecDepth 100000 in
theorem m_2794 : Cond.methodLink RX15 817 yX15_workOut ∈ W0 := w0_in (List.mem_append_right _ (List.mem_of_getElem? (i := 2794) rfl)) rfl
set_option maxRecDepth 100000 in
theorem m_2796 : Cond.instanceMethod yX15_workOut ∈ W0 := w0_in (List.mem_append_right _ (List.mem_of_getElem? (i := 2796) rfl)) rfl
set_option maxRecDepth 100000 in
theorem m_2797 : Cond.code yX15_workOut cX15_workOut 8 none ∈ W0 := w0_in (List.mem_append_right _ (List.mem_of_getElem? (i := 2797) rfl)) rfl
theorem dv_X15 : ∀ j, j < 71 → defaultValue (tyX15 j) = dV ((tl 15).getD j 2) := by decide +kernel
section
variable {p : Program} {l : Launch} {e : Env} {R : Room} {s : State} {m : MethodId} {args : Array Value} {below : List Frame} {meth : Method} {c : Code} {H : Heap} {locs : List Loc} {cells slots : Nat} {Q : State → Prop}
variable {cc : ByteArray} {pc : Nat} {ls : Array Slot} {rest : List Value} {X : Ec} {h h1 : Hp} {nL : Nat} {rt : Option FieldType} {mn : String}
theorem pf_X15_770 {a r : Nat} (C : Cx X p s m args meth c RX15 cc nL rt mn) (hW : Wx X h H) (hZ : va_S (aA (eB X)) s.heap H locs) (ha : hK h a = 15) (hr : hK h r = 18) (eh : h1 = wR h a 52 (some r)) (hdg : decode cc pc = .ok (.putfield 770, 3)) (kk : ∀ (H1 : Heap) (locs1 : List Loc), Wx X h1 H1 → Km h h1 → va_S (aA (eB X)) s.heap H1 locs1 → W p l e R s m args below meth c H1 locs1 cells slots Q (F0 m (pc + 3) ls rest)) : W p l e R s m args below meth c H locs cells slots Q (F0 m pc ls (.ref r :: .ref a :: rest)) :=
  y_putr (ty := .array .long) C hW hZ ha i_X15 tyX15 tyX15_ok nmX15 (by decide) rfl rfl (by decide) m_2163 rfl (by decide +kernel) rfl rfl rfl hr rfl (by decide) eh hdg kk
end
theorem cw_X15_814 : cwd RX15 814 yX15_begin cX15_begin 9 none false 2 := ⟨m_2781, m_2778, m_19, ⟨m_2780, ms_206⟩, by decide, by decide, by decide +kernel⟩
theorem cw_X15_817 : cwd RX15 817 yX15_workOut cX15_workOut 8 none false 0 := ⟨m_2797, m_2794, m_19, ⟨m_2796, ms_209⟩, by decide, by decide, by decide +kernel⟩
theorem cw_X15_810 : cwd RX15 810 yX15_addAll cX15_addAll 6 (some .boolean) false 0 := ⟨m_2768, m_2765, m_19, ⟨m_2767, ms_203⟩, by decide, by decide, by decide +kernel⟩
theorem cw_X15_807 : cwd RX15 807 yX15_hasCatches cX15_hasCatches 3 (some .boolean) false 0 := ⟨m_2746, m_2743, m_19, ⟨m_2745, ms_199⟩, by decide, by decide, by decide +kernel⟩
theorem dX15_solve_0 : decode cX15_solve 0 = .ok (.aload_n 0, 1) := by decide +kernel
theorem dX15_solve_1 : decode cX15_solve 1 = .ok (.getfield 1, 3) := by decide +kernel
theorem dX15_solve_4 : decode cX15_solve 4 = .ok (.istore_n 1, 1) := by decide +kernel
theorem dX15_solve_5 : decode cX15_solve 5 = .ok (.aload_n 0, 1) := by decide +kernel
theorem dX15_solve_6 : decode cX15_solve 6 = .ok (.iconst 0, 1) := by decide +kernel
theorem dX15_solve_7 : decode cX15_solve 7 = .ok (.putfield 1, 3) := by decide +kernel
theorem dX15_solve_10 : decode cX15_solve 10 = .ok (.aload_n 0, 1) := by decide +kernel
theorem dX15_solve_11 : decode cX15_solve 11 = .ok (.getfield 252, 3) := by decide +kernel
theorem dX15_solve_14 : decode cX15_solve 14 = .ok (.getfield 126, 3) := by decide +kernel
theorem dX15_solve_17 : decode cX15_solve 17 = .ok (.ifCond .ne 30, 3) := by decide +kernel
theorem dX15_solve_20 : decode cX15_solve 20 = .ok (.aload_n 0, 1) := by decide +kernel
theorem dX15_solve_21 : decode cX15_solve 21 = .ok (.getfield 252, 3) := by decide +kernel
theorem dX15_solve_24 : decode cX15_solve 24 = .ok (.getfield 142, 3) := by decide +kernel
theorem dX15_solve_27 : decode cX15_solve 27 = .ok (.ifCond .ne 20, 3) := by decide +kernel
theorem dX15_solve_30 : decode cX15_solve 30 = .ok (.aload_n 0, 1) := by decide +kernel
theorem dX15_solve_31 : decode cX15_solve 31 = .ok (.getfield 252, 3) := by decide +kernel
theorem dX15_solve_34 : decode cX15_solve 34 = .ok (.getfield 233, 3) := by decide +kernel
theorem dX15_solve_37 : decode cX15_solve 37 = .ok (.ifCond .gt 10, 3) := by decide +kernel
theorem dX15_solve_40 : decode cX15_solve 40 = .ok (.aload_n 0, 1) := by decide +kernel
theorem dX15_solve_41 : decode cX15_solve 41 = .ok (.invokevirtual 807, 3) := by decide +kernel
theorem dX15_solve_44 : decode cX15_solve 44 = .ok (.ifCond .eq 6, 3) := by decide +kernel
theorem dX15_solve_47 : decode cX15_solve 47 = .ok (.bipush (-103), 2) := by decide +kernel
theorem dX15_solve_49 : decode cX15_solve 49 = .ok (.ireturn, 1) := by decide +kernel
theorem dX15_solve_50 : decode cX15_solve 50 = .ok (.iconst 0, 1) := by decide +kernel
theorem dX15_solve_51 : decode cX15_solve 51 = .ok (.istore_n 2, 1) := by decide +kernel
theorem dX15_solve_52 : decode cX15_solve 52 = .ok (.iconst 0, 1) := by decide +kernel
theorem dX15_solve_53 : decode cX15_solve 53 = .ok (.istore_n 3, 1) := by decide +kernel
theorem dX15_solve_54 : decode cX15_solve 54 = .ok (.iload_n 3, 1) := by decide +kernel
theorem dX15_solve_55 : decode cX15_solve 55 = .ok (.iload_n 1, 1) := by decide +kernel
theorem dX15_solve_56 : decode cX15_solve 56 = .ok (.if_icmp .ge 119, 3) := by decide +kernel
theorem dX15_solve_59 : decode cX15_solve 59 = .ok (.aload_n 0, 1) := by decide +kernel
theorem dX15_solve_60 : decode cX15_solve 60 = .ok (.aload_n 0, 1) := by decide +kernel
theorem dX15_solve_61 : decode cX15_solve 61 = .ok (.getfield 7, 3) := by decide +kernel
theorem dX15_solve_64 : decode cX15_solve 64 = .ok (.iload_n 3, 1) := by decide +kernel
theorem dX15_solve_65 : decode cX15_solve 65 = .ok (.baload, 1) := by decide +kernel
theorem dX15_solve_66 : decode cX15_solve 66 = .ok (.invokevirtual 424, 3) := by decide +kernel
theorem dX15_solve_69 : decode cX15_solve 69 = .ok (.istore 4, 2) := by decide +kernel
theorem dX15_solve_71 : decode cX15_solve 71 = .ok (.iload 4, 2) := by decide +kernel
theorem dX15_solve_73 : decode cX15_solve 73 = .ok (.ifCond .le 35, 3) := by decide +kernel
theorem dX15_solve_76 : decode cX15_solve 76 = .ok (.iload 4, 2) := by decide +kernel
theorem dX15_solve_78 : decode cX15_solve 78 = .ok (.invokestatic 492, 3) := by decide +kernel
theorem dX15_solve_81 : decode cX15_solve 81 = .ok (.aload_n 0, 1) := by decide +kernel
theorem dX15_solve_82 : decode cX15_solve 82 = .ok (.getfield 252, 3) := by decide +kernel
theorem dX15_solve_85 : decode cX15_solve 85 = .ok (.getfield 221, 3) := by decide +kernel
theorem dX15_solve_88 : decode cX15_solve 88 = .ok (.if_icmp .ne 20, 3) := by decide +kernel
theorem dX15_solve_91 : decode cX15_solve 91 = .ok (.iload_n 2, 1) := by decide +kernel
theorem dX15_solve_92 : decode cX15_solve 92 = .ok (.iload 4, 2) := by decide +kernel
theorem dX15_solve_94 : decode cX15_solve 94 = .ok (.invokestatic 489, 3) := by decide +kernel
theorem dX15_solve_97 : decode cX15_solve 97 = .ok (.ishr, 1) := by decide +kernel
theorem dX15_solve_98 : decode cX15_solve 98 = .ok (.iconst 1, 1) := by decide +kernel
theorem dX15_solve_99 : decode cX15_solve 99 = .ok (.iand, 1) := by decide +kernel
theorem dX15_solve_100 : decode cX15_solve 100 = .ok (.iconst 1, 1) := by decide +kernel
theorem dX15_solve_101 : decode cX15_solve 101 = .ok (.if_icmp .ne 7, 3) := by decide +kernel
theorem dX15_solve_104 : decode cX15_solve 104 = .ok (.iconst 1, 1) := by decide +kernel
theorem dX15_solve_105 : decode cX15_solve 105 = .ok (.goto 4, 3) := by decide +kernel
theorem dX15_solve_108 : decode cX15_solve 108 = .ok (.iconst 0, 1) := by decide +kernel
theorem dX15_solve_109 : decode cX15_solve 109 = .ok (.istore 5, 2) := by decide +kernel
theorem dX15_solve_111 : decode cX15_solve 111 = .ok (.iload 4, 2) := by decide +kernel
theorem dX15_solve_113 : decode cX15_solve 113 = .ok (.ifCond .eq 13, 3) := by decide +kernel
theorem dX15_solve_116 : decode cX15_solve 116 = .ok (.iload 5, 2) := by decide +kernel
theorem dX15_solve_118 : decode cX15_solve 118 = .ok (.ifCond .ne 8, 3) := by decide +kernel
theorem dX15_solve_121 : decode cX15_solve 121 = .ok (.iload_n 3, 1) := by decide +kernel
theorem dX15_solve_122 : decode cX15_solve 122 = .ok (.iconst 5, 1) := by decide +kernel
theorem dX15_solve_123 : decode cX15_solve 123 = .ok (.if_icmp .ne 9, 3) := by decide +kernel
theorem dX15_solve_126 : decode cX15_solve 126 = .ok (.sipush (-200), 3) := by decide +kernel
theorem dX15_solve_129 : decode cX15_solve 129 = .ok (.iload_n 3, 1) := by decide +kernel
theorem dX15_solve_130 : decode cX15_solve 130 = .ok (.isub, 1) := by decide +kernel
theorem dX15_solve_131 : decode cX15_solve 131 = .ok (.ireturn, 1) := by decide +kernel
theorem dX15_solve_132 : decode cX15_solve 132 = .ok (.iload_n 2, 1) := by decide +kernel
theorem dX15_solve_133 : decode cX15_solve 133 = .ok (.iload 4, 2) := by decide +kernel
theorem dX15_solve_135 : decode cX15_solve 135 = .ok (.invokestatic 492, 3) := by decide +kernel
theorem dX15_solve_138 : decode cX15_solve 138 = .ok (.aload_n 0, 1) := by decide +kernel
theorem dX15_solve_139 : decode cX15_solve 139 = .ok (.getfield 252, 3) := by decide +kernel
theorem dX15_solve_142 : decode cX15_solve 142 = .ok (.getfield 221, 3) := by decide +kernel
theorem dX15_solve_145 : decode cX15_solve 145 = .ok (.if_icmp .ne 13, 3) := by decide +kernel
theorem dX15_solve_148 : decode cX15_solve 148 = .ok (.iconst 1, 1) := by decide +kernel
theorem dX15_solve_149 : decode cX15_solve 149 = .ok (.iload 4, 2) := by decide +kernel
theorem dX15_solve_151 : decode cX15_solve 151 = .ok (.invokestatic 489, 3) := by decide +kernel
theorem dX15_solve_154 : decode cX15_solve 154 = .ok (.ishl, 1) := by decide +kernel
theorem dX15_solve_155 : decode cX15_solve 155 = .ok (.goto 4, 3) := by decide +kernel
theorem dX15_solve_158 : decode cX15_solve 158 = .ok (.iconst 0, 1) := by decide +kernel
theorem dX15_solve_159 : decode cX15_solve 159 = .ok (.ior, 1) := by decide +kernel
theorem dX15_solve_160 : decode cX15_solve 160 = .ok (.istore_n 2, 1) := by decide +kernel
theorem dX15_solve_161 : decode cX15_solve 161 = .ok (.aload_n 0, 1) := by decide +kernel
theorem dX15_solve_162 : decode cX15_solve 162 = .ok (.getfield 359, 3) := by decide +kernel
theorem dX15_solve_165 : decode cX15_solve 165 = .ok (.iload_n 3, 1) := by decide +kernel
theorem dX15_solve_166 : decode cX15_solve 166 = .ok (.iload 4, 2) := by decide +kernel
theorem dX15_solve_168 : decode cX15_solve 168 = .ok (.iastore, 1) := by decide +kernel
theorem dX15_solve_169 : decode cX15_solve 169 = .ok (.iinc 3 1, 3) := by decide +kernel
theorem dX15_solve_172 : decode cX15_solve 172 = .ok (.goto (-118), 3) := by decide +kernel
theorem dX15_solve_175 : decode cX15_solve 175 = .ok (.iload_n 1, 1) := by decide +kernel
theorem dX15_solve_176 : decode cX15_solve 176 = .ok (.iconst 2, 1) := by decide +kernel
theorem dX15_solve_177 : decode cX15_solve 177 = .ok (.if_icmp .ge 9, 3) := by decide +kernel
theorem dX15_solve_180 : decode cX15_solve 180 = .ok (.sipush (-200), 3) := by decide +kernel
theorem dX15_solve_183 : decode cX15_solve 183 = .ok (.iload_n 1, 1) := by decide +kernel
theorem dX15_solve_184 : decode cX15_solve 184 = .ok (.isub, 1) := by decide +kernel
theorem dX15_solve_185 : decode cX15_solve 185 = .ok (.ireturn, 1) := by decide +kernel
theorem dX15_solve_186 : decode cX15_solve 186 = .ok (.aload_n 0, 1) := by decide +kernel
theorem dX15_solve_187 : decode cX15_solve 187 = .ok (.iconst 0, 1) := by decide +kernel
theorem dX15_solve_188 : decode cX15_solve 188 = .ok (.putfield 751, 3) := by decide +kernel
theorem dX15_solve_191 : decode cX15_solve 191 = .ok (.aload_n 0, 1) := by decide +kernel
theorem dX15_solve_192 : decode cX15_solve 192 = .ok (.lconst 0, 1) := by decide +kernel
theorem dX15_solve_193 : decode cX15_solve 193 = .ok (.putfield 746, 3) := by decide +kernel
theorem dX15_solve_196 : decode cX15_solve 196 = .ok (.aload_n 0, 1) := by decide +kernel
theorem dX15_solve_197 : decode cX15_solve 197 = .ok (.iconst 0, 1) := by decide +kernel
theorem dX15_solve_198 : decode cX15_solve 198 = .ok (.putfield 387, 3) := by decide +kernel
theorem dX15_solve_201 : decode cX15_solve 201 = .ok (.iconst 0, 1) := by decide +kernel
theorem dX15_solve_202 : decode cX15_solve 202 = .ok (.istore_n 3, 1) := by decide +kernel
theorem dX15_solve_203 : decode cX15_solve 203 = .ok (.iload_n 3, 1) := by decide +kernel
theorem dX15_solve_204 : decode cX15_solve 204 = .ok (.sipush 16384, 3) := by decide +kernel
theorem dX15_solve_207 : decode cX15_solve 207 = .ok (.if_icmp .ge 16, 3) := by decide +kernel
theorem dX15_solve_210 : decode cX15_solve 210 = .ok (.aload_n 0, 1) := by decide +kernel
theorem dX15_solve_211 : decode cX15_solve 211 = .ok (.getfield 356, 3) := by decide +kernel
theorem dX15_solve_214 : decode cX15_solve 214 = .ok (.iload_n 3, 1) := by decide +kernel
theorem dX15_solve_215 : decode cX15_solve 215 = .ok (.iconst 0, 1) := by decide +kernel
theorem dX15_solve_216 : decode cX15_solve 216 = .ok (.iastore, 1) := by decide +kernel
theorem dX15_solve_217 : decode cX15_solve 217 = .ok (.iinc 3 1, 3) := by decide +kernel
theorem dX15_solve_220 : decode cX15_solve 220 = .ok (.goto (-17), 3) := by decide +kernel
theorem dX15_solve_223 : decode cX15_solve 223 = .ok (.aload_n 0, 1) := by decide +kernel
theorem dX15_solve_224 : decode cX15_solve 224 = .ok (.iload_n 1, 1) := by decide +kernel
theorem dX15_solve_225 : decode cX15_solve 225 = .ok (.invokevirtual 754, 3) := by decide +kernel
theorem dX15_solve_228 : decode cX15_solve 228 = .ok (.ifCond .eq 10, 3) := by decide +kernel
theorem dX15_solve_231 : decode cX15_solve 231 = .ok (.aload_n 0, 1) := by decide +kernel
theorem dX15_solve_232 : decode cX15_solve 232 = .ok (.invokevirtual 810, 3) := by decide +kernel
theorem dX15_solve_235 : decode cX15_solve 235 = .ok (.ifCond .ne 6, 3) := by decide +kernel
theorem dX15_solve_238 : decode cX15_solve 238 = .ok (.bipush (-104), 2) := by decide +kernel
theorem dX15_solve_240 : decode cX15_solve 240 = .ok (.ireturn, 1) := by decide +kernel
theorem dX15_solve_241 : decode cX15_solve 241 = .ok (.iconst 0, 1) := by decide +kernel
theorem dX15_solve_242 : decode cX15_solve 242 = .ok (.istore_n 3, 1) := by decide +kernel
theorem dX15_solve_243 : decode cX15_solve 243 = .ok (.iconst 0, 1) := by decide +kernel
theorem dX15_solve_244 : decode cX15_solve 244 = .ok (.istore 4, 2) := by decide +kernel
theorem dX15_solve_246 : decode cX15_solve 246 = .ok (.iload 4, 2) := by decide +kernel
theorem dX15_solve_248 : decode cX15_solve 248 = .ok (.aload_n 0, 1) := by decide +kernel
theorem dX15_solve_249 : decode cX15_solve 249 = .ok (.getfield 751, 3) := by decide +kernel
theorem dX15_solve_252 : decode cX15_solve 252 = .ok (.if_icmp .ge 36, 3) := by decide +kernel
theorem dX15_solve_255 : decode cX15_solve 255 = .ok (.aload_n 0, 1) := by decide +kernel
theorem dX15_solve_256 : decode cX15_solve 256 = .ok (.getfield 346, 3) := by decide +kernel
theorem dX15_solve_259 : decode cX15_solve 259 = .ok (.iload 4, 2) := by decide +kernel
theorem dX15_solve_261 : decode cX15_solve 261 = .ok (.iload_n 3, 1) := by decide +kernel
theorem dX15_solve_262 : decode cX15_solve 262 = .ok (.iastore, 1) := by decide +kernel
theorem dX15_solve_263 : decode cX15_solve 263 = .ok (.iload_n 3, 1) := by decide +kernel
theorem dX15_solve_264 : decode cX15_solve 264 = .ok (.aload_n 0, 1) := by decide +kernel
theorem dX15_solve_265 : decode cX15_solve 265 = .ok (.iload 4, 2) := by decide +kernel
theorem dX15_solve_267 : decode cX15_solve 267 = .ok (.invokevirtual 801, 3) := by decide +kernel
theorem dX15_solve_270 : decode cX15_solve 270 = .ok (.iconst 2, 1) := by decide +kernel
theorem dX15_solve_271 : decode cX15_solve 271 = .ok (.idiv, 1) := by decide +kernel
theorem dX15_solve_272 : decode cX15_solve 272 = .ok (.aload_n 0, 1) := by decide +kernel
theorem dX15_solve_273 : decode cX15_solve 273 = .ok (.getfield 333, 3) := by decide +kernel
theorem dX15_solve_276 : decode cX15_solve 276 = .ok (.iload 4, 2) := by decide +kernel
theorem dX15_solve_278 : decode cX15_solve 278 = .ok (.iaload, 1) := by decide +kernel
theorem dX15_solve_279 : decode cX15_solve 279 = .ok (.imul, 1) := by decide +kernel
theorem dX15_solve_280 : decode cX15_solve 280 = .ok (.iadd, 1) := by decide +kernel
theorem dX15_solve_281 : decode cX15_solve 281 = .ok (.istore_n 3, 1) := by decide +kernel
theorem dX15_solve_282 : decode cX15_solve 282 = .ok (.iinc 4 1, 3) := by decide +kernel
theorem dX15_solve_285 : decode cX15_solve 285 = .ok (.goto (-39), 3) := by decide +kernel
theorem dX15_solve_288 : decode cX15_solve 288 = .ok (.aload_n 0, 1) := by decide +kernel
theorem dX15_solve_289 : decode cX15_solve 289 = .ok (.getfield 770, 3) := by decide +kernel
theorem dX15_solve_292 : decode cX15_solve 292 = .ok (.ifnonnull 12, 3) := by decide +kernel
theorem dX15_solve_295 : decode cX15_solve 295 = .ok (.aload_n 0, 1) := by decide +kernel
theorem dX15_solve_296 : decode cX15_solve 296 = .ok (.ldc_w 813, 3) := by decide +kernel
theorem dX15_solve_299 : decode cX15_solve 299 = .ok (.newarray .long, 2) := by decide +kernel
theorem dX15_solve_301 : decode cX15_solve 301 = .ok (.putfield 770, 3) := by decide +kernel
theorem dX15_solve_304 : decode cX15_solve 304 = .ok (.iconst 0, 1) := by decide +kernel
theorem dX15_solve_305 : decode cX15_solve 305 = .ok (.istore 4, 2) := by decide +kernel
theorem dX15_solve_307 : decode cX15_solve 307 = .ok (.iload 4, 2) := by decide +kernel
theorem dX15_solve_309 : decode cX15_solve 309 = .ok (.iload_n 3, 1) := by decide +kernel
theorem dX15_solve_310 : decode cX15_solve 310 = .ok (.if_icmp .ge 17, 3) := by decide +kernel
theorem dX15_solve_313 : decode cX15_solve 313 = .ok (.aload_n 0, 1) := by decide +kernel
theorem dX15_solve_314 : decode cX15_solve 314 = .ok (.getfield 770, 3) := by decide +kernel
theorem dX15_solve_317 : decode cX15_solve 317 = .ok (.iload 4, 2) := by decide +kernel
theorem dX15_solve_319 : decode cX15_solve 319 = .ok (.lconst 0, 1) := by decide +kernel
theorem dX15_solve_320 : decode cX15_solve 320 = .ok (.lastore, 1) := by decide +kernel
theorem dX15_solve_321 : decode cX15_solve 321 = .ok (.iinc 4 1, 3) := by decide +kernel
theorem dX15_solve_324 : decode cX15_solve 324 = .ok (.goto (-17), 3) := by decide +kernel
theorem dX15_solve_327 : decode cX15_solve 327 = .ok (.iconst 0, 1) := by decide +kernel
theorem dX15_solve_328 : decode cX15_solve 328 = .ok (.istore 4, 2) := by decide +kernel
theorem dX15_solve_330 : decode cX15_solve 330 = .ok (.iload 4, 2) := by decide +kernel
theorem dX15_solve_332 : decode cX15_solve 332 = .ok (.aload_n 0, 1) := by decide +kernel
theorem dX15_solve_333 : decode cX15_solve 333 = .ok (.getfield 349, 3) := by decide +kernel
theorem dX15_solve_336 : decode cX15_solve 336 = .ok (.arraylength, 1) := by decide +kernel
theorem dX15_solve_337 : decode cX15_solve 337 = .ok (.if_icmp .ge 17, 3) := by decide +kernel
theorem dX15_solve_340 : decode cX15_solve 340 = .ok (.aload_n 0, 1) := by decide +kernel
theorem dX15_solve_341 : decode cX15_solve 341 = .ok (.getfield 349, 3) := by decide +kernel
theorem dX15_solve_344 : decode cX15_solve 344 = .ok (.iload 4, 2) := by decide +kernel
theorem dX15_solve_346 : decode cX15_solve 346 = .ok (.lconst 0, 1) := by decide +kernel
theorem dX15_solve_347 : decode cX15_solve 347 = .ok (.lastore, 1) := by decide +kernel
theorem dX15_solve_348 : decode cX15_solve 348 = .ok (.iinc 4 1, 3) := by decide +kernel
theorem dX15_solve_351 : decode cX15_solve 351 = .ok (.goto (-21), 3) := by decide +kernel
theorem dX15_solve_354 : decode cX15_solve 354 = .ok (.iconst 0, 1) := by decide +kernel
theorem dX15_solve_355 : decode cX15_solve 355 = .ok (.istore 4, 2) := by decide +kernel
theorem dX15_solve_357 : decode cX15_solve 357 = .ok (.iload 4, 2) := by decide +kernel
theorem dX15_solve_359 : decode cX15_solve 359 = .ok (.aload_n 0, 1) := by decide +kernel
theorem dX15_solve_360 : decode cX15_solve 360 = .ok (.getfield 751, 3) := by decide +kernel
theorem dX15_solve_363 : decode cX15_solve 363 = .ok (.if_icmp .ge 41, 3) := by decide +kernel
theorem dX15_solve_366 : decode cX15_solve 366 = .ok (.aload_n 0, 1) := by decide +kernel
theorem dX15_solve_367 : decode cX15_solve 367 = .ok (.iload 4, 2) := by decide +kernel
theorem dX15_solve_369 : decode cX15_solve 369 = .ok (.invokevirtual 801, 3) := by decide +kernel
theorem dX15_solve_372 : decode cX15_solve 372 = .ok (.istore 5, 2) := by decide +kernel
theorem dX15_solve_374 : decode cX15_solve 374 = .ok (.iconst 0, 1) := by decide +kernel
theorem dX15_solve_375 : decode cX15_solve 375 = .ok (.istore 6, 2) := by decide +kernel
theorem dX15_solve_377 : decode cX15_solve 377 = .ok (.iload 6, 2) := by decide +kernel
theorem dX15_solve_379 : decode cX15_solve 379 = .ok (.iload 5, 2) := by decide +kernel
theorem dX15_solve_381 : decode cX15_solve 381 = .ok (.if_icmp .ge 17, 3) := by decide +kernel
theorem dX15_solve_384 : decode cX15_solve 384 = .ok (.aload_n 0, 1) := by decide +kernel
theorem dX15_solve_385 : decode cX15_solve 385 = .ok (.iload 4, 2) := by decide +kernel
theorem dX15_solve_387 : decode cX15_solve 387 = .ok (.iload 6, 2) := by decide +kernel
theorem dX15_solve_389 : decode cX15_solve 389 = .ok (.invokevirtual 814, 3) := by decide +kernel
theorem dX15_solve_392 : decode cX15_solve 392 = .ok (.iinc 6 1, 3) := by decide +kernel
theorem dX15_solve_395 : decode cX15_solve 395 = .ok (.goto (-18), 3) := by decide +kernel
theorem dX15_solve_398 : decode cX15_solve 398 = .ok (.iinc 4 1, 3) := by decide +kernel
theorem dX15_solve_401 : decode cX15_solve 401 = .ok (.goto (-44), 3) := by decide +kernel
theorem dX15_solve_404 : decode cX15_solve 404 = .ok (.aload_n 0, 1) := by decide +kernel
theorem dX15_solve_405 : decode cX15_solve 405 = .ok (.invokevirtual 817, 3) := by decide +kernel
theorem dX15_solve_408 : decode cX15_solve 408 = .ok (.aload_n 0, 1) := by decide +kernel
theorem dX15_solve_409 : decode cX15_solve 409 = .ok (.aload_n 0, 1) := by decide +kernel
theorem dX15_solve_410 : decode cX15_solve 410 = .ok (.getfield 751, 3) := by decide +kernel
theorem dX15_solve_413 : decode cX15_solve 413 = .ok (.putfield 387, 3) := by decide +kernel
theorem dX15_solve_416 : decode cX15_solve 416 = .ok (.aload_n 0, 1) := by decide +kernel
theorem dX15_solve_417 : decode cX15_solve 417 = .ok (.getfield 751, 3) := by decide +kernel
theorem dX15_solve_420 : decode cX15_solve 420 = .ok (.ireturn, 1) := by decide +kernel
set_option maxRecDepth 20000 in
theorem moX15_solve_47 {o : Int32 × Hp} {F : Nat} {h : Hp} (hE : sX15_solve_47 F h  = some o) : Le h o.2 := by
  exact le_some2 hE
set_option maxRecDepth 20000 in
theorem moX15_solve_238 {o : Int32 × Hp} {F : Nat} {h : Hp} (hE : sX15_solve_238 F h  = some o) : Le h o.2 := by
  exact le_some2 hE
set_option maxRecDepth 20000 in
theorem moX15_solve_408 {o : Int32 × Hp} {F : Nat} {h : Hp} {x0 : Nat} (hE : sX15_solve_408 F h x0 = some o) : Le h o.2 := by
  obtain ⟨h_1, eh_1, hE⟩ := nm_e2 hE
  refine (le_I eh_1).tr ?_
  exact le_some2 hE
set_option maxRecDepth 20000 in
theorem moX15_solve_392 {o : Int32 × Hp} {k_357 : Hp → Nat → Int32 → Option (Int32 × Hp)} {k_377 : Hp → Nat → Int32 → Int32 → Int32 → Option (Int32 × Hp)} {F : Nat} (mk_357 : ∀ (h : Hp) (x0 : Nat) (x4 : Int32), k_357 h x0 x4 = some o → Le h o.2) (mk_377 : ∀ (h : Hp) (x0 : Nat) (x4 : Int32) (x5 : Int32) (x6 : Int32), k_377 h x0 x4 x5 x6 = some o → Le h o.2) {h : Hp} {x0 : Nat} {x4 : Int32} {x5 : Int32} {x6 : Int32} (hE : sX15_solve_392 F k_357 k_377 h x0 x4 x5 x6 = some o) : Le h o.2 := by
  obtain ⟨v_1, ev_1, hE⟩ := nm_e2 hE
  exact mk_377 _ _ _ _ _ hE
set_option maxRecDepth 20000 in
theorem moX15_solve_377 {o : Int32 × Hp} {k_357 : Hp → Nat → Int32 → Option (Int32 × Hp)} {F : Nat} (mk_357 : ∀ (h : Hp) (x0 : Nat) (x4 : Int32), k_357 h x0 x4 = some o → Le h o.2) : ∀ (f : Nat) {h : Hp} {x0 : Nat} {x4 : Int32} {x5 : Int32} {x6 : Int32}, sX15_solve_377 F k_357 f h x0 x4 x5 x6 = some o → Le h o.2 := by
  intro f
  induction f with
  | zero =>
    intro h x0 x4 x5 x6 hE
    rw [sX15_solve_377] at hE
    cases hE
  | succ f ih =>
    intro h x0 x4 x5 x6 hE
    rw [sX15_solve_377] at hE
    have mk_377 : ∀ (h : Hp) (x0 : Nat) (x4 : Int32) (x5 : Int32) (x6 : Int32), sX15_solve_377 F k_357 f h x0 x4 x5 x6 = some o → Le h o.2 := fun h x0 x4 x5 x6 hE => ih hE
    rcases br_e hE with ⟨_, hE⟩ | ⟨_, hE⟩
    · obtain ⟨v_2, ev_2, hE⟩ := nm_e2 hE
      exact mk_357 _ _ _ hE
    · obtain ⟨o_3, eo_3, hE⟩ := cl_e hE
      refine (moX15_begin eo_3).tr ?_
      exact moX15_solve_392 mk_357 mk_377 hE
set_option maxRecDepth 20000 in
theorem moX15_solve_372 {o : Int32 × Hp} {k_357 : Hp → Nat → Int32 → Option (Int32 × Hp)} {F : Nat} (mk_357 : ∀ (h : Hp) (x0 : Nat) (x4 : Int32), k_357 h x0 x4 = some o → Le h o.2) {h : Hp} {x0 : Nat} {x4 : Int32} {t0 : Int32} (hE : sX15_solve_372 F k_357 h x0 x4 t0 = some o) : Le h o.2 := by
  exact moX15_solve_377 mk_357 _ hE
set_option maxRecDepth 20000 in
theorem moX15_solve_357 {o : Int32 × Hp} {F : Nat} : ∀ (f : Nat) {h : Hp} {x0 : Nat} {x4 : Int32}, sX15_solve_357 F f h x0 x4 = some o → Le h o.2 := by
  intro f
  induction f with
  | zero =>
    intro h x0 x4 hE
    rw [sX15_solve_357] at hE
    cases hE
  | succ f ih =>
    intro h x0 x4 hE
    rw [sX15_solve_357] at hE
    have mk_357 : ∀ (h : Hp) (x0 : Nat) (x4 : Int32), sX15_solve_357 F f h x0 x4 = some o → Le h o.2 := fun h x0 x4 hE => ih hE
    rcases br_e hE with ⟨_, hE⟩ | ⟨_, hE⟩
    · obtain ⟨o_2, eo_2, hE⟩ := cl_e hE
      refine (moX15_workOut eo_2).tr ?_
      exact moX15_solve_408 hE
    · obtain ⟨o_3, eo_3, hE⟩ := cl_e hE
      refine (moX15_sizeOf eo_3).tr ?_
      exact moX15_solve_372 mk_357 hE
set_option maxRecDepth 20000 in
theorem moX15_solve_330 {o : Int32 × Hp} {F : Nat} : ∀ (f : Nat) {h : Hp} {x0 : Nat} {x4 : Int32}, sX15_solve_330 F f h x0 x4 = some o → Le h o.2 := by
  intro f
  induction f with
  | zero =>
    intro h x0 x4 hE
    rw [sX15_solve_330] at hE
    cases hE
  | succ f ih =>
    intro h x0 x4 hE
    rw [sX15_solve_330] at hE
    have mk_330 : ∀ (h : Hp) (x0 : Nat) (x4 : Int32), sX15_solve_330 F f h x0 x4 = some o → Le h o.2 := fun h x0 x4 hE => ih hE
    obtain ⟨r_1, er_1, hE⟩ := cl_e hE
    rcases br_e hE with ⟨_, hE⟩ | ⟨_, hE⟩
    · exact moX15_solve_357 _ hE
    · obtain ⟨r_3, er_3, hE⟩ := cl_e hE
      obtain ⟨g_4, hE⟩ := gd_e hE
      obtain ⟨h_5, eh_5, hE⟩ := nm_e2 hE
      refine (le_J eh_5).tr ?_
      obtain ⟨v_6, ev_6, hE⟩ := nm_e2 hE
      exact mk_330 _ _ _ hE
set_option maxRecDepth 20000 in
theorem moX15_solve_307 {o : Int32 × Hp} {F : Nat} : ∀ (f : Nat) {h : Hp} {x0 : Nat} {x3 : Int32} {x4 : Int32}, sX15_solve_307 F f h x0 x3 x4 = some o → Le h o.2 := by
  intro f
  induction f with
  | zero =>
    intro h x0 x3 x4 hE
    rw [sX15_solve_307] at hE
    cases hE
  | succ f ih =>
    intro h x0 x3 x4 hE
    rw [sX15_solve_307] at hE
    have mk_307 : ∀ (h : Hp) (x0 : Nat) (x3 : Int32) (x4 : Int32), sX15_solve_307 F f h x0 x3 x4 = some o → Le h o.2 := fun h x0 x3 x4 hE => ih hE
    rcases br_e hE with ⟨_, hE⟩ | ⟨_, hE⟩
    · exact moX15_solve_330 _ hE
    · obtain ⟨r_2, er_2, hE⟩ := cl_e hE
      obtain ⟨g_3, hE⟩ := gd_e hE
      obtain ⟨h_4, eh_4, hE⟩ := nm_e2 hE
      refine (le_J eh_4).tr ?_
      obtain ⟨v_5, ev_5, hE⟩ := nm_e2 hE
      exact mk_307 _ _ _ _ hE
set_option maxRecDepth 20000 in
theorem moX15_solve_304 {o : Int32 × Hp} {F : Nat} {h : Hp} {x0 : Nat} {x3 : Int32} (hE : sX15_solve_304 F h x0 x3 = some o) : Le h o.2 := by
  exact moX15_solve_307 _ hE
set_option maxRecDepth 20000 in
theorem moX15_solve_301 {o : Int32 × Hp} {F : Nat} {h : Hp} {x0 : Nat} {x3 : Int32} {t0 : Nat} {t1 : Nat} (hE : sX15_solve_301 F h x0 x3 t0 t1 = some o) : Le h o.2 := by
  obtain ⟨h_1, eh_1, hE⟩ := nm_e2 hE
  refine (le_R eh_1).tr ?_
  exact moX15_solve_304 hE
set_option maxRecDepth 20000 in
theorem moX15_solve_270 {o : Int32 × Hp} {k_246 : Hp → Nat → Int32 → Int32 → Option (Int32 × Hp)} {F : Nat} (mk_246 : ∀ (h : Hp) (x0 : Nat) (x3 : Int32) (x4 : Int32), k_246 h x0 x3 x4 = some o → Le h o.2) {h : Hp} {x0 : Nat} {x4 : Int32} {t0 : Int32} {t1 : Int32} (hE : sX15_solve_270 F k_246 h x0 x4 t0 t1 = some o) : Le h o.2 := by
  obtain ⟨r_1, er_1, hE⟩ := cl_e hE
  obtain ⟨g_2, hE⟩ := gd_e hE
  obtain ⟨v_3, ev_3, hE⟩ := nm_e2 hE
  obtain ⟨v_4, ev_4, hE⟩ := nm_e2 hE
  exact mk_246 _ _ _ _ hE
set_option maxRecDepth 20000 in
theorem moX15_solve_246 {o : Int32 × Hp} {F : Nat} : ∀ (f : Nat) {h : Hp} {x0 : Nat} {x3 : Int32} {x4 : Int32}, sX15_solve_246 F f h x0 x3 x4 = some o → Le h o.2 := by
  intro f
  induction f with
  | zero =>
    intro h x0 x3 x4 hE
    rw [sX15_solve_246] at hE
    cases hE
  | succ f ih =>
    intro h x0 x3 x4 hE
    rw [sX15_solve_246] at hE
    have mk_246 : ∀ (h : Hp) (x0 : Nat) (x3 : Int32) (x4 : Int32), sX15_solve_246 F f h x0 x3 x4 = some o → Le h o.2 := fun h x0 x3 x4 hE => ih hE
    rcases br_e hE with ⟨_, hE⟩ | ⟨_, hE⟩
    · rcases onr_e hE with hE | ⟨r_2, hE⟩
      · obtain ⟨a_4, ea_4, hE⟩ := nm_e2 hE
        obtain ⟨h_5, eh_5, hE⟩ := nm_e2 hE
        refine (le_C eh_5).tr ?_
        exact moX15_solve_301 hE
      · exact moX15_solve_304 hE
    · obtain ⟨r_6, er_6, hE⟩ := cl_e hE
      obtain ⟨g_7, hE⟩ := gd_e hE
      obtain ⟨h_8, eh_8, hE⟩ := nm_e2 hE
      refine (le_I eh_8).tr ?_
      obtain ⟨o_9, eo_9, hE⟩ := cl_e hE
      refine (moX15_sizeOf eo_9).tr ?_
      exact moX15_solve_270 mk_246 hE
set_option maxRecDepth 20000 in
theorem moX15_solve_235 {o : Int32 × Hp} {F : Nat} {h : Hp} {x0 : Nat} {t0 : Int32} (hE : sX15_solve_235 F h x0 t0 = some o) : Le h o.2 := by
  rcases br_e hE with ⟨_, hE⟩ | ⟨_, hE⟩
  · exact moX15_solve_238 hE
  · exact moX15_solve_246 _ hE
set_option maxRecDepth 20000 in
theorem moX15_solve_228 {o : Int32 × Hp} {F : Nat} {h : Hp} {x0 : Nat} {t0 : Int32} (hE : sX15_solve_228 F h x0 t0 = some o) : Le h o.2 := by
  rcases br_e hE with ⟨_, hE⟩ | ⟨_, hE⟩
  · exact moX15_solve_238 hE
  · obtain ⟨o_2, eo_2, hE⟩ := cl_e hE
    refine (moX15_addAll eo_2).tr ?_
    exact moX15_solve_235 hE
set_option maxRecDepth 20000 in
theorem moX15_solve_203 {o : Int32 × Hp} {F : Nat} : ∀ (f : Nat) {h : Hp} {x0 : Nat} {x1 : Int32} {x3 : Int32}, sX15_solve_203 F f h x0 x1 x3 = some o → Le h o.2 := by
  intro f
  induction f with
  | zero =>
    intro h x0 x1 x3 hE
    rw [sX15_solve_203] at hE
    cases hE
  | succ f ih =>
    intro h x0 x1 x3 hE
    rw [sX15_solve_203] at hE
    have mk_203 : ∀ (h : Hp) (x0 : Nat) (x1 : Int32) (x3 : Int32), sX15_solve_203 F f h x0 x1 x3 = some o → Le h o.2 := fun h x0 x1 x3 hE => ih hE
    rcases br_e hE with ⟨_, hE⟩ | ⟨_, hE⟩
    · obtain ⟨o_2, eo_2, hE⟩ := cl_e hE
      refine (moX15_addSet eo_2).tr ?_
      exact moX15_solve_228 hE
    · obtain ⟨r_3, er_3, hE⟩ := cl_e hE
      obtain ⟨g_4, hE⟩ := gd_e hE
      obtain ⟨h_5, eh_5, hE⟩ := nm_e2 hE
      refine (le_I eh_5).tr ?_
      obtain ⟨v_6, ev_6, hE⟩ := nm_e2 hE
      exact mk_203 _ _ _ _ hE
set_option maxRecDepth 20000 in
theorem moX15_solve_126 {o : Int32 × Hp} {F : Nat} {h : Hp} {x3 : Int32} (hE : sX15_solve_126 F h x3 = some o) : Le h o.2 := by
  exact le_some2 hE
set_option maxRecDepth 20000 in
theorem moX15_solve_159 {o : Int32 × Hp} {k_54 : Hp → Nat → Int32 → Int32 → Int32 → Option (Int32 × Hp)} {F : Nat} (mk_54 : ∀ (h : Hp) (x0 : Nat) (x1 : Int32) (x2 : Int32) (x3 : Int32), k_54 h x0 x1 x2 x3 = some o → Le h o.2) {h : Hp} {x0 : Nat} {x1 : Int32} {x3 : Int32} {x4 : Int32} {t0 : Int32} {t1 : Int32} (hE : sX15_solve_159 F k_54 h x0 x1 x3 x4 t0 t1 = some o) : Le h o.2 := by
  obtain ⟨v_1, ev_1, hE⟩ := nm_e2 hE
  obtain ⟨r_2, er_2, hE⟩ := cl_e hE
  obtain ⟨g_3, hE⟩ := gd_e hE
  obtain ⟨h_4, eh_4, hE⟩ := nm_e2 hE
  refine (le_I eh_4).tr ?_
  obtain ⟨v_5, ev_5, hE⟩ := nm_e2 hE
  exact mk_54 _ _ _ _ _ hE
set_option maxRecDepth 20000 in
theorem moX15_solve_154 {o : Int32 × Hp} {k_54 : Hp → Nat → Int32 → Int32 → Int32 → Option (Int32 × Hp)} {F : Nat} (mk_54 : ∀ (h : Hp) (x0 : Nat) (x1 : Int32) (x2 : Int32) (x3 : Int32), k_54 h x0 x1 x2 x3 = some o → Le h o.2) {h : Hp} {x0 : Nat} {x1 : Int32} {x3 : Int32} {x4 : Int32} {t0 : Int32} {t1 : Int32} {t2 : Int32} (hE : sX15_solve_154 F k_54 h x0 x1 x3 x4 t0 t1 t2 = some o) : Le h o.2 := by
  exact moX15_solve_159 mk_54 hE
set_option maxRecDepth 20000 in
theorem moX15_solve_138 {o : Int32 × Hp} {k_54 : Hp → Nat → Int32 → Int32 → Int32 → Option (Int32 × Hp)} {F : Nat} (mk_54 : ∀ (h : Hp) (x0 : Nat) (x1 : Int32) (x2 : Int32) (x3 : Int32), k_54 h x0 x1 x2 x3 = some o → Le h o.2) {h : Hp} {x0 : Nat} {x1 : Int32} {x3 : Int32} {x4 : Int32} {t0 : Int32} {t1 : Int32} (hE : sX15_solve_138 F k_54 h x0 x1 x3 x4 t0 t1 = some o) : Le h o.2 := by
  obtain ⟨r_1, er_1, hE⟩ := cl_e hE
  rcases br_e hE with ⟨_, hE⟩ | ⟨_, hE⟩
  · obtain ⟨o_3, eo_3, hE⟩ := cl_e hE
    refine (moX15_sideOf eo_3).tr ?_
    exact moX15_solve_154 mk_54 hE
  · exact moX15_solve_159 mk_54 hE
set_option maxRecDepth 20000 in
theorem moX15_solve_109 {o : Int32 × Hp} {k_54 : Hp → Nat → Int32 → Int32 → Int32 → Option (Int32 × Hp)} {F : Nat} (mk_54 : ∀ (h : Hp) (x0 : Nat) (x1 : Int32) (x2 : Int32) (x3 : Int32), k_54 h x0 x1 x2 x3 = some o → Le h o.2) {h : Hp} {x0 : Nat} {x1 : Int32} {x2 : Int32} {x3 : Int32} {x4 : Int32} {t0 : Int32} (hE : sX15_solve_109 F k_54 h x0 x1 x2 x3 x4 t0 = some o) : Le h o.2 := by
  rcases br_e hE with ⟨_, hE⟩ | ⟨_, hE⟩
  · exact moX15_solve_126 hE
  · rcases br_e hE with ⟨_, hE⟩ | ⟨_, hE⟩
    · rcases br_e hE with ⟨_, hE⟩ | ⟨_, hE⟩
      · exact moX15_solve_126 hE
      · obtain ⟨o_4, eo_4, hE⟩ := cl_e hE
        refine (moX15_manOf eo_4).tr ?_
        exact moX15_solve_138 mk_54 hE
    · exact moX15_solve_126 hE
set_option maxRecDepth 20000 in
theorem moX15_solve_108 {o : Int32 × Hp} {k_54 : Hp → Nat → Int32 → Int32 → Int32 → Option (Int32 × Hp)} {F : Nat} (mk_54 : ∀ (h : Hp) (x0 : Nat) (x1 : Int32) (x2 : Int32) (x3 : Int32), k_54 h x0 x1 x2 x3 = some o → Le h o.2) {h : Hp} {x0 : Nat} {x1 : Int32} {x2 : Int32} {x3 : Int32} {x4 : Int32} (hE : sX15_solve_108 F k_54 h x0 x1 x2 x3 x4 = some o) : Le h o.2 := by
  exact moX15_solve_109 mk_54 hE
set_option maxRecDepth 20000 in
theorem moX15_solve_97 {o : Int32 × Hp} {k_54 : Hp → Nat → Int32 → Int32 → Int32 → Option (Int32 × Hp)} {F : Nat} (mk_54 : ∀ (h : Hp) (x0 : Nat) (x1 : Int32) (x2 : Int32) (x3 : Int32), k_54 h x0 x1 x2 x3 = some o → Le h o.2) {h : Hp} {x0 : Nat} {x1 : Int32} {x2 : Int32} {x3 : Int32} {x4 : Int32} {t0 : Int32} {t1 : Int32} (hE : sX15_solve_97 F k_54 h x0 x1 x2 x3 x4 t0 t1 = some o) : Le h o.2 := by
  rcases br_e hE with ⟨_, hE⟩ | ⟨_, hE⟩
  · exact moX15_solve_109 mk_54 hE
  · exact moX15_solve_108 mk_54 hE
set_option maxRecDepth 20000 in
theorem moX15_solve_81 {o : Int32 × Hp} {k_54 : Hp → Nat → Int32 → Int32 → Int32 → Option (Int32 × Hp)} {F : Nat} (mk_54 : ∀ (h : Hp) (x0 : Nat) (x1 : Int32) (x2 : Int32) (x3 : Int32), k_54 h x0 x1 x2 x3 = some o → Le h o.2) {h : Hp} {x0 : Nat} {x1 : Int32} {x2 : Int32} {x3 : Int32} {x4 : Int32} {t0 : Int32} (hE : sX15_solve_81 F k_54 h x0 x1 x2 x3 x4 t0 = some o) : Le h o.2 := by
  obtain ⟨r_1, er_1, hE⟩ := cl_e hE
  rcases br_e hE with ⟨_, hE⟩ | ⟨_, hE⟩
  · obtain ⟨o_3, eo_3, hE⟩ := cl_e hE
    refine (moX15_sideOf eo_3).tr ?_
    exact moX15_solve_97 mk_54 hE
  · exact moX15_solve_108 mk_54 hE
set_option maxRecDepth 20000 in
theorem moX15_solve_69 {o : Int32 × Hp} {k_54 : Hp → Nat → Int32 → Int32 → Int32 → Option (Int32 × Hp)} {F : Nat} (mk_54 : ∀ (h : Hp) (x0 : Nat) (x1 : Int32) (x2 : Int32) (x3 : Int32), k_54 h x0 x1 x2 x3 = some o → Le h o.2) {h : Hp} {x0 : Nat} {x1 : Int32} {x2 : Int32} {x3 : Int32} {t0 : Int32} (hE : sX15_solve_69 F k_54 h x0 x1 x2 x3 t0 = some o) : Le h o.2 := by
  rcases br_e hE with ⟨_, hE⟩ | ⟨_, hE⟩
  · exact moX15_solve_108 mk_54 hE
  · obtain ⟨o_2, eo_2, hE⟩ := cl_e hE
    refine (moX15_manOf eo_2).tr ?_
    exact moX15_solve_81 mk_54 hE
set_option maxRecDepth 20000 in
theorem moX15_solve_54 {o : Int32 × Hp} {F : Nat} : ∀ (f : Nat) {h : Hp} {x0 : Nat} {x1 : Int32} {x2 : Int32} {x3 : Int32}, sX15_solve_54 F f h x0 x1 x2 x3 = some o → Le h o.2 := by
  intro f
  induction f with
  | zero =>
    intro h x0 x1 x2 x3 hE
    rw [sX15_solve_54] at hE
    cases hE
  | succ f ih =>
    intro h x0 x1 x2 x3 hE
    rw [sX15_solve_54] at hE
    have mk_54 : ∀ (h : Hp) (x0 : Nat) (x1 : Int32) (x2 : Int32) (x3 : Int32), sX15_solve_54 F f h x0 x1 x2 x3 = some o → Le h o.2 := fun h x0 x1 x2 x3 hE => ih hE
    rcases br_e hE with ⟨_, hE⟩ | ⟨_, hE⟩
    · rcases br_e hE with ⟨_, hE⟩ | ⟨_, hE⟩
      · obtain ⟨h_3, eh_3, hE⟩ := nm_e2 hE
        refine (le_I eh_3).tr ?_
        obtain ⟨h_4, eh_4, hE⟩ := nm_e2 hE
        refine (le_J eh_4).tr ?_
        obtain ⟨h_5, eh_5, hE⟩ := nm_e2 hE
        refine (le_I eh_5).tr ?_
        exact moX15_solve_203 _ hE
      · exact le_some2 hE
    · obtain ⟨r_6, er_6, hE⟩ := cl_e hE
      obtain ⟨g_7, hE⟩ := gd_e hE
      obtain ⟨o_8, eo_8, hE⟩ := cl_e hE
      refine (moX15_manLetter eo_8).tr ?_
      exact moX15_solve_69 mk_54 hE
set_option maxRecDepth 20000 in
theorem moX15_solve_44 {o : Int32 × Hp} {F : Nat} {h : Hp} {x0 : Nat} {x1 : Int32} {t0 : Int32} (hE : sX15_solve_44 F h x0 x1 t0 = some o) : Le h o.2 := by
  rcases br_e hE with ⟨_, hE⟩ | ⟨_, hE⟩
  · exact moX15_solve_54 _ hE
  · exact moX15_solve_47 hE
set_option maxRecDepth 20000 in
theorem moX15_solve {o : Int32 × Hp} {F : Nat} {h : Hp} {x0 : Nat} (hE : sX15_solve F h x0 = some o) : Le h o.2 := by
  obtain ⟨v_1, ev_1, hE⟩ := nm_e2 hE
  obtain ⟨h_2, eh_2, hE⟩ := nm_e2 hE
  refine (le_I eh_2).tr ?_
  obtain ⟨r_3, er_3, hE⟩ := cl_e hE
  rcases br_e hE with ⟨_, hE⟩ | ⟨_, hE⟩
  · obtain ⟨r_5, er_5, hE⟩ := cl_e hE
    rcases br_e hE with ⟨_, hE⟩ | ⟨_, hE⟩
    · obtain ⟨r_7, er_7, hE⟩ := cl_e hE
      rcases br_e hE with ⟨_, hE⟩ | ⟨_, hE⟩
      · exact moX15_solve_47 hE
      · obtain ⟨o_9, eo_9, hE⟩ := cl_e hE
        refine (moX15_hasCatches eo_9).tr ?_
        exact moX15_solve_44 hE
    · exact moX15_solve_47 hE
  · exact moX15_solve_47 hE
set_option maxRecDepth 20000 in
theorem bX15_solve_47 {p : Program} {l : Launch} {e : Env} {s : State} {m : MethodId} {args : Array Value} {below : List Frame} {meth : Method} {c : Code} {X : Ec} {h0 : Hp} {o : Int32 × Hp} {F : Nat} (C : Cx X p s m args meth c RX15 cX15_solve 7 (some .int) "solve") {h : Hp} {H : Heap} {locs : List Loc} (hkl : Kl h0 h) (hW : Wx X h H) (hZ : va_S (aA (eB X)) s.heap H locs) (ls : Array Slot) (hl : lv_has ls 7 []) (hE : sX15_solve_47 F h  = some o) : W p l e (rmA 8 219 h0 o.2) s m args below meth c H locs (hS h - hS h0) (hL h - hL h0) (MQ below (QIA X h0 o.1 o.2) args s (hS o.2 - hS h0) (hL o.2 - hL h0) (aA (eB X))) (F0 m 47 ls []) := by
  refine lv_bipush (v := (-103 : Int32)) C.1 C.2.1 dX15_solve_47 (by decide) ?_
  exact x_iretA C rfl rfl hW hZ hkl hE dX15_solve_49
set_option maxRecDepth 20000 in
theorem bX15_solve_238 {p : Program} {l : Launch} {e : Env} {s : State} {m : MethodId} {args : Array Value} {below : List Frame} {meth : Method} {c : Code} {X : Ec} {h0 : Hp} {o : Int32 × Hp} {F : Nat} (C : Cx X p s m args meth c RX15 cX15_solve 7 (some .int) "solve") {h : Hp} {H : Heap} {locs : List Loc} (hkl : Kl h0 h) (hW : Wx X h H) (hZ : va_S (aA (eB X)) s.heap H locs) (ls : Array Slot) (hl : lv_has ls 7 []) (hE : sX15_solve_238 F h  = some o) : W p l e (rmA 8 219 h0 o.2) s m args below meth c H locs (hS h - hS h0) (hL h - hL h0) (MQ below (QIA X h0 o.1 o.2) args s (hS o.2 - hS h0) (hL o.2 - hL h0) (aA (eB X))) (F0 m 238 ls []) := by
  refine lv_bipush (v := (-104 : Int32)) C.1 C.2.1 dX15_solve_238 (by decide) ?_
  exact x_iretA C rfl rfl hW hZ hkl hE dX15_solve_240
set_option maxRecDepth 20000 in
theorem bX15_solve_408 {p : Program} {l : Launch} {e : Env} {s : State} {m : MethodId} {args : Array Value} {below : List Frame} {meth : Method} {c : Code} {X : Ec} {h0 : Hp} {o : Int32 × Hp} {F : Nat} (C : Cx X p s m args meth c RX15 cX15_solve 7 (some .int) "solve") {h : Hp} {x0 : Nat} {H : Heap} {locs : List Loc} (k_x0 : hK h x0 = 15) (hkl : Kl h0 h) (hW : Wx X h H) (hZ : va_S (aA (eB X)) s.heap H locs) (ls : Array Slot) (hl : lv_has ls 7 [(0, .ref x0)]) (hE : sX15_solve_408 F h x0 = some o) : W p l e (rmA 8 219 h0 o.2) s m args below meth c H locs (hS h - hS h0) (hL h - hL h0) (MQ below (QIA X h0 o.1 o.2) args s (hS o.2 - hS h0) (hL o.2 - hL h0) (aA (eB X))) (F0 m 408 ls []) := by
  refine lv_aload_n C.1 C.2.1 dX15_solve_408 rfl (lv_at hl 0 rfl) ?_
  refine lv_aload_n C.1 C.2.1 dX15_solve_409 rfl (lv_at hl 0 rfl) ?_
  refine gf_X15_751 C hW k_x0 dX15_solve_410 ?_
  obtain ⟨h_1, eh_1, hE⟩ := nm_e2 hE
  refine pf_X15_387 C hW hZ k_x0 eh_1 dX15_solve_413 (fun _ _ hW km hZ => ?_)
  replace hkl := hkl.tr km.l
  refine x_wc km ?_
  replace k_x0 := km.at k_x0 (by decide)
  refine lv_aload_n C.1 C.2.1 dX15_solve_416 rfl (lv_at hl 0 rfl) ?_
  refine gf_X15_751 C hW k_x0 dX15_solve_417 ?_
  exact x_iretA C rfl rfl hW hZ hkl hE dX15_solve_420
set_option maxRecDepth 20000 in
theorem bX15_solve_392 {p : Program} {l : Launch} {e : Env} {s : State} {m : MethodId} {args : Array Value} {below : List Frame} {meth : Method} {c : Code} {X : Ec} {h0 : Hp} {o : Int32 × Hp} {k_357 : Hp → Nat → Int32 → Option (Int32 × Hp)} {k_377 : Hp → Nat → Int32 → Int32 → Int32 → Option (Int32 × Hp)} {F : Nat} (C : Cx X p s m args meth c RX15 cX15_solve 7 (some .int) "solve") (hk_357 : ∀ (h : Hp) (x0 : Nat) (x4 : Int32) (H : Heap) (locs : List Loc), hK h x0 = 15 → Kl h0 h → Wx X h H → va_S (aA (eB X)) s.heap H locs → ∀ (ls : Array Slot), lv_has ls 7 [(0, .ref x0), (4, .int x4)] → k_357 h x0 x4 = some o → W p l e (rmA 8 219 h0 o.2) s m args below meth c H locs (hS h - hS h0) (hL h - hL h0) (MQ below (QIA X h0 o.1 o.2) args s (hS o.2 - hS h0) (hL o.2 - hL h0) (aA (eB X))) (F0 m 357 ls [])) (hk_377 : ∀ (h : Hp) (x0 : Nat) (x4 : Int32) (x5 : Int32) (x6 : Int32) (H : Heap) (locs : List Loc), hK h x0 = 15 → Kl h0 h → Wx X h H → va_S (aA (eB X)) s.heap H locs → ∀ (ls : Array Slot), lv_has ls 7 [(0, .ref x0), (4, .int x4), (5, .int x5), (6, .int x6)] → k_377 h x0 x4 x5 x6 = some o → W p l e (rmA 8 219 h0 o.2) s m args below meth c H locs (hS h - hS h0) (hL h - hL h0) (MQ below (QIA X h0 o.1 o.2) args s (hS o.2 - hS h0) (hL o.2 - hL h0) (aA (eB X))) (F0 m 377 ls [])) (mk_357 : ∀ (h : Hp) (x0 : Nat) (x4 : Int32), k_357 h x0 x4 = some o → Le h o.2) (mk_377 : ∀ (h : Hp) (x0 : Nat) (x4 : Int32) (x5 : Int32) (x6 : Int32), k_377 h x0 x4 x5 x6 = some o → Le h o.2) {h : Hp} {x0 : Nat} {x4 : Int32} {x5 : Int32} {x6 : Int32} {H : Heap} {locs : List Loc} (k_x0 : hK h x0 = 15) (hkl : Kl h0 h) (hW : Wx X h H) (hZ : va_S (aA (eB X)) s.heap H locs) (ls : Array Slot) (hl : lv_has ls 7 [(0, .ref x0), (4, .int x4), (5, .int x5), (6, .int x6)]) (hE : sX15_solve_392 F k_357 k_377 h x0 x4 x5 x6 = some o) : W p l e (rmA 8 219 h0 o.2) s m args below meth c H locs (hS h - hS h0) (hL h - hL h0) (MQ below (QIA X h0 o.1 o.2) args s (hS o.2 - hS h0) (hL o.2 - hL h0) (aA (eB X))) (F0 m 392 ls []) := by
  obtain ⟨v_1, ev_1, hE⟩ := nm_e2 hE
  refine lv_iinc (v := v_1) (lv' := [(6, .int v_1), (0, .ref x0), (4, .int x4), (5, .int x5)]) C.1 C.2.1 dX15_solve_392 hl (k := 3) rfl (by rw [ev_1]; rfl) (by decide) rfl (fun ls hl => ?_)
  refine lv_goto (tgt := 377) C.1 C.2.1 dX15_solve_395 (by decide) ?_
  exact hk_377 _ _ _ _ _ _ _ k_x0 hkl hW hZ _ (lv_sub hl [1, 2, 3, 0] rfl) hE
set_option maxRecDepth 20000 in
theorem bX15_solve_377 {p : Program} {l : Launch} {e : Env} {s : State} {m : MethodId} {args : Array Value} {below : List Frame} {meth : Method} {c : Code} {X : Ec} {h0 : Hp} {o : Int32 × Hp} {k_357 : Hp → Nat → Int32 → Option (Int32 × Hp)} {F : Nat} (C : Cx X p s m args meth c RX15 cX15_solve 7 (some .int) "solve") (hk_357 : ∀ (h : Hp) (x0 : Nat) (x4 : Int32) (H : Heap) (locs : List Loc), hK h x0 = 15 → Kl h0 h → Wx X h H → va_S (aA (eB X)) s.heap H locs → ∀ (ls : Array Slot), lv_has ls 7 [(0, .ref x0), (4, .int x4)] → k_357 h x0 x4 = some o → W p l e (rmA 8 219 h0 o.2) s m args below meth c H locs (hS h - hS h0) (hL h - hL h0) (MQ below (QIA X h0 o.1 o.2) args s (hS o.2 - hS h0) (hL o.2 - hL h0) (aA (eB X))) (F0 m 357 ls [])) (mk_357 : ∀ (h : Hp) (x0 : Nat) (x4 : Int32), k_357 h x0 x4 = some o → Le h o.2) : ∀ (f : Nat) {h : Hp} {x0 : Nat} {x4 : Int32} {x5 : Int32} {x6 : Int32} {H : Heap} {locs : List Loc} (k_x0 : hK h x0 = 15), Kl h0 h → Wx X h H → va_S (aA (eB X)) s.heap H locs → ∀ (ls : Array Slot), lv_has ls 7 [(0, .ref x0), (4, .int x4), (5, .int x5), (6, .int x6)] → sX15_solve_377 F k_357 f h x0 x4 x5 x6 = some o → W p l e (rmA 8 219 h0 o.2) s m args below meth c H locs (hS h - hS h0) (hL h - hL h0) (MQ below (QIA X h0 o.1 o.2) args s (hS o.2 - hS h0) (hL o.2 - hL h0) (aA (eB X))) (F0 m 377 ls []) := by
  intro f
  induction f with
  | zero =>
    intro h x0 x4 x5 x6 H locs k_x0 hkl hW hZ ls hl hE
    rw [sX15_solve_377] at hE
    cases hE
  | succ f ih =>
    intro h x0 x4 x5 x6 H locs k_x0 hkl hW hZ ls hl hE
    rw [sX15_solve_377] at hE
    have mk_377 : ∀ (h : Hp) (x0 : Nat) (x4 : Int32) (x5 : Int32) (x6 : Int32), sX15_solve_377 F k_357 f h x0 x4 x5 x6 = some o → Le h o.2 := fun h x0 x4 x5 x6 hE => moX15_solve_377 mk_357 _ hE
    have hk_377 : ∀ (h : Hp) (x0 : Nat) (x4 : Int32) (x5 : Int32) (x6 : Int32) (H : Heap) (locs : List Loc), hK h x0 = 15 → Kl h0 h → Wx X h H → va_S (aA (eB X)) s.heap H locs → ∀ (ls : Array Slot), lv_has ls 7 [(0, .ref x0), (4, .int x4), (5, .int x5), (6, .int x6)] → sX15_solve_377 F k_357 f h x0 x4 x5 x6 = some o → W p l e (rmA 8 219 h0 o.2) s m args below meth c H locs (hS h - hS h0) (hL h - hL h0) (MQ below (QIA X h0 o.1 o.2) args s (hS o.2 - hS h0) (hL o.2 - hL h0) (aA (eB X))) (F0 m 377 ls []) := fun h x0 x4 x5 x6 H locs k_x0 a b c ls hl hE => ih k_x0 a b c ls hl hE
    refine lv_iload C.1 C.2.1 dX15_solve_377 (lv_at hl 3 rfl) ?_
    refine lv_iload C.1 C.2.1 dX15_solve_379 (lv_at hl 2 rfl) ?_
    refine lv_icmp_ge (tgt := 398) C.1 C.2.1 dX15_solve_381 (by decide) (fun c_1 => ?_) (fun c_1 => ?_)
    · have hE := br_p hE c_1
      obtain ⟨v_2, ev_2, hE⟩ := nm_e2 hE
      refine lv_iinc (v := v_2) (lv' := [(4, .int v_2), (0, .ref x0), (5, .int x5), (6, .int x6)]) C.1 C.2.1 dX15_solve_398 hl (k := 1) rfl (by rw [ev_2]; rfl) (by decide) rfl (fun ls hl => ?_)
      refine lv_goto (tgt := 357) C.1 C.2.1 dX15_solve_401 (by decide) ?_
      exact hk_357 _ _ _ _ _ k_x0 hkl hW hZ _ (lv_sub hl [1, 0] rfl) hE
    · have hE := br_n hE c_1
      refine lv_aload_n C.1 C.2.1 dX15_solve_384 rfl (lv_at hl 0 rfl) ?_
      refine lv_iload C.1 C.2.1 dX15_solve_385 (lv_at hl 1 rfl) ?_
      refine lv_iload C.1 C.2.1 dX15_solve_387 (lv_at hl 3 rfl) ?_
      obtain ⟨o_3, eo_3, hE⟩ := cl_e hE
      have m1 := moX15_begin eo_3
      have m2 := moX15_solve_392 mk_357 mk_377 hE
      refine x_kV (o := o_3) (z_runV (As := [.int x4, .int x6]) (rest := []) C (ct_X15_begin l X F k_x0 eo_3) cw_X15_814 hW hZ k_x0 (by decide) rfl rfl rfl hl.1 (Nat.le_of_ble_eq_true rfl) rfl dX15_solve_389 ⟨Nat.le_of_ble_eq_true rfl, Nat.le_of_ble_eq_true rfl⟩ (rm_ok0 hkl m1 m2)) hZ (fun _ _ hW km hZ => ?_)
      replace hkl := hkl.tr km.l
      refine x_wc km ?_
      replace k_x0 := km.at k_x0 (by decide)
      exact bX15_solve_392 C hk_357 hk_377 mk_357 mk_377 k_x0 hkl hW hZ _ (lv_sub hl [0, 1, 2, 3] rfl) hE
set_option maxRecDepth 20000 in
theorem bX15_solve_372 {p : Program} {l : Launch} {e : Env} {s : State} {m : MethodId} {args : Array Value} {below : List Frame} {meth : Method} {c : Code} {X : Ec} {h0 : Hp} {o : Int32 × Hp} {k_357 : Hp → Nat → Int32 → Option (Int32 × Hp)} {F : Nat} (C : Cx X p s m args meth c RX15 cX15_solve 7 (some .int) "solve") (hk_357 : ∀ (h : Hp) (x0 : Nat) (x4 : Int32) (H : Heap) (locs : List Loc), hK h x0 = 15 → Kl h0 h → Wx X h H → va_S (aA (eB X)) s.heap H locs → ∀ (ls : Array Slot), lv_has ls 7 [(0, .ref x0), (4, .int x4)] → k_357 h x0 x4 = some o → W p l e (rmA 8 219 h0 o.2) s m args below meth c H locs (hS h - hS h0) (hL h - hL h0) (MQ below (QIA X h0 o.1 o.2) args s (hS o.2 - hS h0) (hL o.2 - hL h0) (aA (eB X))) (F0 m 357 ls [])) (mk_357 : ∀ (h : Hp) (x0 : Nat) (x4 : Int32), k_357 h x0 x4 = some o → Le h o.2) {h : Hp} {x0 : Nat} {x4 : Int32} {t0 : Int32} {H : Heap} {locs : List Loc} (k_x0 : hK h x0 = 15) (hkl : Kl h0 h) (hW : Wx X h H) (hZ : va_S (aA (eB X)) s.heap H locs) (ls : Array Slot) (hl : lv_has ls 7 [(0, .ref x0), (4, .int x4)]) (hE : sX15_solve_372 F k_357 h x0 x4 t0 = some o) : W p l e (rmA 8 219 h0 o.2) s m args below meth c H locs (hS h - hS h0) (hL h - hL h0) (MQ below (QIA X h0 o.1 o.2) args s (hS o.2 - hS h0) (hL o.2 - hL h0) (aA (eB X))) (F0 m 372 ls [.int t0]) := by
  refine lv_istore (lv' := [(5, .int t0), (0, .ref x0), (4, .int x4)]) C.1 C.2.1 dX15_solve_372 hl (by decide) rfl (fun ls hl => ?_)
  refine lv_iconst (v := (0 : Int32)) C.1 C.2.1 dX15_solve_374 (by decide) ?_
  refine lv_istore (lv' := [(6, .int (0 : Int32)), (5, .int t0), (0, .ref x0), (4, .int x4)]) C.1 C.2.1 dX15_solve_375 hl (by decide) rfl (fun ls hl => ?_)
  exact bX15_solve_377 C hk_357 mk_357 F k_x0 hkl hW hZ _ (lv_sub hl [2, 3, 1, 0] rfl) hE
set_option maxRecDepth 20000 in
theorem bX15_solve_357 {p : Program} {l : Launch} {e : Env} {s : State} {m : MethodId} {args : Array Value} {below : List Frame} {meth : Method} {c : Code} {X : Ec} {h0 : Hp} {o : Int32 × Hp} {F : Nat} (C : Cx X p s m args meth c RX15 cX15_solve 7 (some .int) "solve") : ∀ (f : Nat) {h : Hp} {x0 : Nat} {x4 : Int32} {H : Heap} {locs : List Loc} (k_x0 : hK h x0 = 15), Kl h0 h → Wx X h H → va_S (aA (eB X)) s.heap H locs → ∀ (ls : Array Slot), lv_has ls 7 [(0, .ref x0), (4, .int x4)] → sX15_solve_357 F f h x0 x4 = some o → W p l e (rmA 8 219 h0 o.2) s m args below meth c H locs (hS h - hS h0) (hL h - hL h0) (MQ below (QIA X h0 o.1 o.2) args s (hS o.2 - hS h0) (hL o.2 - hL h0) (aA (eB X))) (F0 m 357 ls []) := by
  intro f
  induction f with
  | zero =>
    intro h x0 x4 H locs k_x0 hkl hW hZ ls hl hE
    rw [sX15_solve_357] at hE
    cases hE
  | succ f ih =>
    intro h x0 x4 H locs k_x0 hkl hW hZ ls hl hE
    rw [sX15_solve_357] at hE
    have mk_357 : ∀ (h : Hp) (x0 : Nat) (x4 : Int32), sX15_solve_357 F f h x0 x4 = some o → Le h o.2 := fun h x0 x4 hE => moX15_solve_357 _ hE
    have hk_357 : ∀ (h : Hp) (x0 : Nat) (x4 : Int32) (H : Heap) (locs : List Loc), hK h x0 = 15 → Kl h0 h → Wx X h H → va_S (aA (eB X)) s.heap H locs → ∀ (ls : Array Slot), lv_has ls 7 [(0, .ref x0), (4, .int x4)] → sX15_solve_357 F f h x0 x4 = some o → W p l e (rmA 8 219 h0 o.2) s m args below meth c H locs (hS h - hS h0) (hL h - hL h0) (MQ below (QIA X h0 o.1 o.2) args s (hS o.2 - hS h0) (hL o.2 - hL h0) (aA (eB X))) (F0 m 357 ls []) := fun h x0 x4 H locs k_x0 a b c ls hl hE => ih k_x0 a b c ls hl hE
    refine lv_iload C.1 C.2.1 dX15_solve_357 (lv_at hl 1 rfl) ?_
    refine lv_aload_n C.1 C.2.1 dX15_solve_359 rfl (lv_at hl 0 rfl) ?_
    refine gf_X15_751 C hW k_x0 dX15_solve_360 ?_
    refine lv_icmp_ge (tgt := 404) C.1 C.2.1 dX15_solve_363 (by decide) (fun c_1 => ?_) (fun c_1 => ?_)
    · have hE := br_p hE c_1
      refine lv_aload_n C.1 C.2.1 dX15_solve_404 rfl (lv_at hl 0 rfl) ?_
      obtain ⟨o_2, eo_2, hE⟩ := cl_e hE
      have m1 := moX15_workOut eo_2
      have m2 := moX15_solve_408 hE
      refine x_kV (o := o_2) (z_runV (As := []) (rest := []) C (ct_X15_workOut l X F k_x0 eo_2) cw_X15_817 hW hZ k_x0 (by decide) rfl rfl rfl hl.1 (Nat.le_of_ble_eq_true rfl) rfl dX15_solve_405 ⟨Nat.le_of_ble_eq_true rfl, Nat.le_of_ble_eq_true rfl⟩ (rm_ok0 hkl m1 m2)) hZ (fun _ _ hW km hZ => ?_)
      replace hkl := hkl.tr km.l
      refine x_wc km ?_
      replace k_x0 := km.at k_x0 (by decide)
      exact bX15_solve_408 C k_x0 hkl hW hZ _ (lv_sub hl [0] rfl) hE
    · have hE := br_n hE c_1
      refine lv_aload_n C.1 C.2.1 dX15_solve_366 rfl (lv_at hl 0 rfl) ?_
      refine lv_iload C.1 C.2.1 dX15_solve_367 (lv_at hl 1 rfl) ?_
      obtain ⟨o_3, eo_3, hE⟩ := cl_e hE
      have m1 := moX15_sizeOf eo_3
      have m2 := moX15_solve_372 mk_357 hE
      refine x_kI (o := o_3) (z_runV (As := [.int x4]) (rest := []) C (ct_X15_sizeOf l X F k_x0 eo_3) cw_X15_801 hW hZ k_x0 (by decide) rfl rfl rfl hl.1 (Nat.le_of_ble_eq_true rfl) rfl dX15_solve_369 ⟨Nat.le_of_ble_eq_true rfl, Nat.le_of_ble_eq_true rfl⟩ (rm_ok0 hkl m1 m2)) hZ (fun _ _ hW km hZ => ?_)
      replace hkl := hkl.tr km.l
      refine x_wc km ?_
      replace k_x0 := km.at k_x0 (by decide)
      exact bX15_solve_372 C hk_357 mk_357 k_x0 hkl hW hZ _ (lv_sub hl [0, 1] rfl) hE
set_option maxRecDepth 20000 in
theorem bX15_solve_330 {p : Program} {l : Launch} {e : Env} {s : State} {m : MethodId} {args : Array Value} {below : List Frame} {meth : Method} {c : Code} {X : Ec} {h0 : Hp} {o : Int32 × Hp} {F : Nat} (C : Cx X p s m args meth c RX15 cX15_solve 7 (some .int) "solve") : ∀ (f : Nat) {h : Hp} {x0 : Nat} {x4 : Int32} {H : Heap} {locs : List Loc} (k_x0 : hK h x0 = 15), Kl h0 h → Wx X h H → va_S (aA (eB X)) s.heap H locs → ∀ (ls : Array Slot), lv_has ls 7 [(0, .ref x0), (4, .int x4)] → sX15_solve_330 F f h x0 x4 = some o → W p l e (rmA 8 219 h0 o.2) s m args below meth c H locs (hS h - hS h0) (hL h - hL h0) (MQ below (QIA X h0 o.1 o.2) args s (hS o.2 - hS h0) (hL o.2 - hL h0) (aA (eB X))) (F0 m 330 ls []) := by
  intro f
  induction f with
  | zero =>
    intro h x0 x4 H locs k_x0 hkl hW hZ ls hl hE
    rw [sX15_solve_330] at hE
    cases hE
  | succ f ih =>
    intro h x0 x4 H locs k_x0 hkl hW hZ ls hl hE
    rw [sX15_solve_330] at hE
    have mk_330 : ∀ (h : Hp) (x0 : Nat) (x4 : Int32), sX15_solve_330 F f h x0 x4 = some o → Le h o.2 := fun h x0 x4 hE => moX15_solve_330 _ hE
    have hk_330 : ∀ (h : Hp) (x0 : Nat) (x4 : Int32) (H : Heap) (locs : List Loc), hK h x0 = 15 → Kl h0 h → Wx X h H → va_S (aA (eB X)) s.heap H locs → ∀ (ls : Array Slot), lv_has ls 7 [(0, .ref x0), (4, .int x4)] → sX15_solve_330 F f h x0 x4 = some o → W p l e (rmA 8 219 h0 o.2) s m args below meth c H locs (hS h - hS h0) (hL h - hL h0) (MQ below (QIA X h0 o.1 o.2) args s (hS o.2 - hS h0) (hL o.2 - hL h0) (aA (eB X))) (F0 m 330 ls []) := fun h x0 x4 H locs k_x0 a b c ls hl hE => ih k_x0 a b c ls hl hE
    refine lv_iload C.1 C.2.1 dX15_solve_330 (lv_at hl 1 rfl) ?_
    refine lv_aload_n C.1 C.2.1 dX15_solve_332 rfl (lv_at hl 0 rfl) ?_
    obtain ⟨r_1, er_1, hE⟩ := cl_e hE
    refine gf_X15_349 C hW k_x0 er_1 dX15_solve_333 (fun k_r_1 => ?_)
    refine y_alen C hW k_r_1 (by decide) dX15_solve_336 ?_
    refine lv_icmp_ge (tgt := 354) C.1 C.2.1 dX15_solve_337 (by decide) (fun c_2 => ?_) (fun c_2 => ?_)
    · have hE := br_p hE c_2
      refine lv_iconst (v := (0 : Int32)) C.1 C.2.1 dX15_solve_354 (by decide) ?_
      refine lv_istore (lv' := [(4, .int (0 : Int32)), (0, .ref x0)]) C.1 C.2.1 dX15_solve_355 hl (by decide) rfl (fun ls hl => ?_)
      exact bX15_solve_357 C F k_x0 hkl hW hZ _ (lv_sub hl [1, 0] rfl) hE
    · have hE := br_n hE c_2
      refine lv_aload_n C.1 C.2.1 dX15_solve_340 rfl (lv_at hl 0 rfl) ?_
      obtain ⟨r_3, er_3, hE⟩ := cl_e hE
      refine gf_X15_349 C hW k_x0 er_3 dX15_solve_341 (fun k_r_3 => ?_)
      refine lv_iload C.1 C.2.1 dX15_solve_344 (lv_at hl 1 rfl) ?_
      refine lv_lconst (v := (0 : Int64)) C.1 C.2.1 dX15_solve_346 (by decide) ?_
      obtain ⟨g_4, hE⟩ := gd_e hE
      obtain ⟨h_5, eh_5, hE⟩ := nm_e2 hE
      refine y_last C hW hZ k_r_3 g_4 eh_5 dX15_solve_347 (fun _ _ hW km hZ => ?_)
      replace hkl := hkl.tr km.l
      refine x_wc km ?_
      replace k_x0 := km.at k_x0 (by decide)
      obtain ⟨v_6, ev_6, hE⟩ := nm_e2 hE
      refine lv_iinc (v := v_6) (lv' := [(4, .int v_6), (0, .ref x0)]) C.1 C.2.1 dX15_solve_348 hl (k := 1) rfl (by rw [ev_6]; rfl) (by decide) rfl (fun ls hl => ?_)
      refine lv_goto (tgt := 330) C.1 C.2.1 dX15_solve_351 (by decide) ?_
      exact hk_330 _ _ _ _ _ k_x0 hkl hW hZ _ (lv_sub hl [1, 0] rfl) hE
set_option maxRecDepth 20000 in
theorem bX15_solve_307 {p : Program} {l : Launch} {e : Env} {s : State} {m : MethodId} {args : Array Value} {below : List Frame} {meth : Method} {c : Code} {X : Ec} {h0 : Hp} {o : Int32 × Hp} {F : Nat} (C : Cx X p s m args meth c RX15 cX15_solve 7 (some .int) "solve") : ∀ (f : Nat) {h : Hp} {x0 : Nat} {x3 : Int32} {x4 : Int32} {H : Heap} {locs : List Loc} (k_x0 : hK h x0 = 15), Kl h0 h → Wx X h H → va_S (aA (eB X)) s.heap H locs → ∀ (ls : Array Slot), lv_has ls 7 [(0, .ref x0), (3, .int x3), (4, .int x4)] → sX15_solve_307 F f h x0 x3 x4 = some o → W p l e (rmA 8 219 h0 o.2) s m args below meth c H locs (hS h - hS h0) (hL h - hL h0) (MQ below (QIA X h0 o.1 o.2) args s (hS o.2 - hS h0) (hL o.2 - hL h0) (aA (eB X))) (F0 m 307 ls []) := by
  intro f
  induction f with
  | zero =>
    intro h x0 x3 x4 H locs k_x0 hkl hW hZ ls hl hE
    rw [sX15_solve_307] at hE
    cases hE
  | succ f ih =>
    intro h x0 x3 x4 H locs k_x0 hkl hW hZ ls hl hE
    rw [sX15_solve_307] at hE
    have mk_307 : ∀ (h : Hp) (x0 : Nat) (x3 : Int32) (x4 : Int32), sX15_solve_307 F f h x0 x3 x4 = some o → Le h o.2 := fun h x0 x3 x4 hE => moX15_solve_307 _ hE
    have hk_307 : ∀ (h : Hp) (x0 : Nat) (x3 : Int32) (x4 : Int32) (H : Heap) (locs : List Loc), hK h x0 = 15 → Kl h0 h → Wx X h H → va_S (aA (eB X)) s.heap H locs → ∀ (ls : Array Slot), lv_has ls 7 [(0, .ref x0), (3, .int x3), (4, .int x4)] → sX15_solve_307 F f h x0 x3 x4 = some o → W p l e (rmA 8 219 h0 o.2) s m args below meth c H locs (hS h - hS h0) (hL h - hL h0) (MQ below (QIA X h0 o.1 o.2) args s (hS o.2 - hS h0) (hL o.2 - hL h0) (aA (eB X))) (F0 m 307 ls []) := fun h x0 x3 x4 H locs k_x0 a b c ls hl hE => ih k_x0 a b c ls hl hE
    refine lv_iload C.1 C.2.1 dX15_solve_307 (lv_at hl 2 rfl) ?_
    refine lv_iload_n C.1 C.2.1 dX15_solve_309 rfl (lv_at hl 1 rfl) ?_
    refine lv_icmp_ge (tgt := 327) C.1 C.2.1 dX15_solve_310 (by decide) (fun c_1 => ?_) (fun c_1 => ?_)
    · have hE := br_p hE c_1
      refine lv_iconst (v := (0 : Int32)) C.1 C.2.1 dX15_solve_327 (by decide) ?_
      refine lv_istore (lv' := [(4, .int (0 : Int32)), (0, .ref x0), (3, .int x3)]) C.1 C.2.1 dX15_solve_328 hl (by decide) rfl (fun ls hl => ?_)
      exact bX15_solve_330 C F k_x0 hkl hW hZ _ (lv_sub hl [1, 0] rfl) hE
    · have hE := br_n hE c_1
      refine lv_aload_n C.1 C.2.1 dX15_solve_313 rfl (lv_at hl 0 rfl) ?_
      obtain ⟨r_2, er_2, hE⟩ := cl_e hE
      refine gf_X15_770 C hW k_x0 er_2 dX15_solve_314 (fun k_r_2 => ?_)
      refine lv_iload C.1 C.2.1 dX15_solve_317 (lv_at hl 2 rfl) ?_
      refine lv_lconst (v := (0 : Int64)) C.1 C.2.1 dX15_solve_319 (by decide) ?_
      obtain ⟨g_3, hE⟩ := gd_e hE
      obtain ⟨h_4, eh_4, hE⟩ := nm_e2 hE
      refine y_last C hW hZ k_r_2 g_3 eh_4 dX15_solve_320 (fun _ _ hW km hZ => ?_)
      replace hkl := hkl.tr km.l
      refine x_wc km ?_
      replace k_x0 := km.at k_x0 (by decide)
      obtain ⟨v_5, ev_5, hE⟩ := nm_e2 hE
      refine lv_iinc (v := v_5) (lv' := [(4, .int v_5), (0, .ref x0), (3, .int x3)]) C.1 C.2.1 dX15_solve_321 hl (k := 2) rfl (by rw [ev_5]; rfl) (by decide) rfl (fun ls hl => ?_)
      refine lv_goto (tgt := 307) C.1 C.2.1 dX15_solve_324 (by decide) ?_
      exact hk_307 _ _ _ _ _ _ k_x0 hkl hW hZ _ (lv_sub hl [1, 2, 0] rfl) hE
set_option maxRecDepth 20000 in
theorem bX15_solve_304 {p : Program} {l : Launch} {e : Env} {s : State} {m : MethodId} {args : Array Value} {below : List Frame} {meth : Method} {c : Code} {X : Ec} {h0 : Hp} {o : Int32 × Hp} {F : Nat} (C : Cx X p s m args meth c RX15 cX15_solve 7 (some .int) "solve") {h : Hp} {x0 : Nat} {x3 : Int32} {H : Heap} {locs : List Loc} (k_x0 : hK h x0 = 15) (hkl : Kl h0 h) (hW : Wx X h H) (hZ : va_S (aA (eB X)) s.heap H locs) (ls : Array Slot) (hl : lv_has ls 7 [(0, .ref x0), (3, .int x3)]) (hE : sX15_solve_304 F h x0 x3 = some o) : W p l e (rmA 8 219 h0 o.2) s m args below meth c H locs (hS h - hS h0) (hL h - hL h0) (MQ below (QIA X h0 o.1 o.2) args s (hS o.2 - hS h0) (hL o.2 - hL h0) (aA (eB X))) (F0 m 304 ls []) := by
  refine lv_iconst (v := (0 : Int32)) C.1 C.2.1 dX15_solve_304 (by decide) ?_
  refine lv_istore (lv' := [(4, .int (0 : Int32)), (0, .ref x0), (3, .int x3)]) C.1 C.2.1 dX15_solve_305 hl (by decide) rfl (fun ls hl => ?_)
  exact bX15_solve_307 C F k_x0 hkl hW hZ _ (lv_sub hl [1, 2, 0] rfl) hE
set_option maxRecDepth 20000 in
theorem bX15_solve_301 {p : Program} {l : Launch} {e : Env} {s : State} {m : MethodId} {args : Array Value} {below : List Frame} {meth : Method} {c : Code} {X : Ec} {h0 : Hp} {o : Int32 × Hp} {F : Nat} (C : Cx X p s m args meth c RX15 cX15_solve 7 (some .int) "solve") {h : Hp} {x0 : Nat} {x3 : Int32} {t0 : Nat} {t1 : Nat} {H : Heap} {locs : List Loc} (k_x0 : hK h x0 = 15) (k_t0 : hK h t0 = 18) (k_t1 : hK h t1 = 15) (hkl : Kl h0 h) (hW : Wx X h H) (hZ : va_S (aA (eB X)) s.heap H locs) (ls : Array Slot) (hl : lv_has ls 7 [(0, .ref x0), (3, .int x3)]) (hE : sX15_solve_301 F h x0 x3 t0 t1 = some o) : W p l e (rmA 8 219 h0 o.2) s m args below meth c H locs (hS h - hS h0) (hL h - hL h0) (MQ below (QIA X h0 o.1 o.2) args s (hS o.2 - hS h0) (hL o.2 - hL h0) (aA (eB X))) (F0 m 301 ls [.ref t0, .ref t1]) := by
  obtain ⟨h_1, eh_1, hE⟩ := nm_e2 hE
  refine pf_X15_770 C hW hZ k_t1 k_t0 eh_1 dX15_solve_301 (fun _ _ hW km hZ => ?_)
  replace hkl := hkl.tr km.l
  refine x_wc km ?_
  replace k_x0 := km.at k_x0 (by decide)
  exact bX15_solve_304 C k_x0 hkl hW hZ _ (lv_sub hl [0, 1] rfl) hE
set_option maxRecDepth 20000 in
theorem bX15_solve_270 {p : Program} {l : Launch} {e : Env} {s : State} {m : MethodId} {args : Array Value} {below : List Frame} {meth : Method} {c : Code} {X : Ec} {h0 : Hp} {o : Int32 × Hp} {k_246 : Hp → Nat → Int32 → Int32 → Option (Int32 × Hp)} {F : Nat} (C : Cx X p s m args meth c RX15 cX15_solve 7 (some .int) "solve") (hk_246 : ∀ (h : Hp) (x0 : Nat) (x3 : Int32) (x4 : Int32) (H : Heap) (locs : List Loc), hK h x0 = 15 → Kl h0 h → Wx X h H → va_S (aA (eB X)) s.heap H locs → ∀ (ls : Array Slot), lv_has ls 7 [(0, .ref x0), (3, .int x3), (4, .int x4)] → k_246 h x0 x3 x4 = some o → W p l e (rmA 8 219 h0 o.2) s m args below meth c H locs (hS h - hS h0) (hL h - hL h0) (MQ below (QIA X h0 o.1 o.2) args s (hS o.2 - hS h0) (hL o.2 - hL h0) (aA (eB X))) (F0 m 246 ls [])) (mk_246 : ∀ (h : Hp) (x0 : Nat) (x3 : Int32) (x4 : Int32), k_246 h x0 x3 x4 = some o → Le h o.2) {h : Hp} {x0 : Nat} {x4 : Int32} {t0 : Int32} {t1 : Int32} {H : Heap} {locs : List Loc} (k_x0 : hK h x0 = 15) (hkl : Kl h0 h) (hW : Wx X h H) (hZ : va_S (aA (eB X)) s.heap H locs) (ls : Array Slot) (hl : lv_has ls 7 [(0, .ref x0), (4, .int x4)]) (hE : sX15_solve_270 F k_246 h x0 x4 t0 t1 = some o) : W p l e (rmA 8 219 h0 o.2) s m args below meth c H locs (hS h - hS h0) (hL h - hL h0) (MQ below (QIA X h0 o.1 o.2) args s (hS o.2 - hS h0) (hL o.2 - hL h0) (aA (eB X))) (F0 m 270 ls [.int t0, .int t1]) := by
  refine lv_iconst (v := (2 : Int32)) C.1 C.2.1 dX15_solve_270 (by decide) ?_
  refine lv_idiv C.1 C.2.1 dX15_solve_271 (by decide) ?_
  refine lv_aload_n C.1 C.2.1 dX15_solve_272 rfl (lv_at hl 0 rfl) ?_
  obtain ⟨r_1, er_1, hE⟩ := cl_e hE
  refine gf_X15_333 C hW k_x0 er_1 dX15_solve_273 (fun k_r_1 => ?_)
  refine lv_iload C.1 C.2.1 dX15_solve_276 (lv_at hl 1 rfl) ?_
  obtain ⟨g_2, hE⟩ := gd_e hE
  refine y_iald C hW k_r_1 g_2 dX15_solve_278 ?_
  refine lv_imul C.1 C.2.1 dX15_solve_279 ?_
  refine lv_iadd C.1 C.2.1 dX15_solve_280 ?_
  obtain ⟨v_3, ev_3, hE⟩ := nm_e2 hE
  refine x_nmI ev_3 ?_
  refine lv_istore_n (lv' := [(3, .int v_3), (0, .ref x0), (4, .int x4)]) C.1 C.2.1 dX15_solve_281 rfl hl (by decide) rfl (fun ls hl => ?_)
  obtain ⟨v_4, ev_4, hE⟩ := nm_e2 hE
  refine lv_iinc (v := v_4) (lv' := [(4, .int v_4), (3, .int v_3), (0, .ref x0)]) C.1 C.2.1 dX15_solve_282 hl (k := 2) rfl (by rw [ev_4]; rfl) (by decide) rfl (fun ls hl => ?_)
  refine lv_goto (tgt := 246) C.1 C.2.1 dX15_solve_285 (by decide) ?_
  exact hk_246 _ _ _ _ _ _ k_x0 hkl hW hZ _ (lv_sub hl [2, 1, 0] rfl) hE
set_option maxRecDepth 20000 in
theorem bX15_solve_246 {p : Program} {l : Launch} {e : Env} {s : State} {m : MethodId} {args : Array Value} {below : List Frame} {meth : Method} {c : Code} {X : Ec} {h0 : Hp} {o : Int32 × Hp} {F : Nat} (C : Cx X p s m args meth c RX15 cX15_solve 7 (some .int) "solve") : ∀ (f : Nat) {h : Hp} {x0 : Nat} {x3 : Int32} {x4 : Int32} {H : Heap} {locs : List Loc} (k_x0 : hK h x0 = 15), Kl h0 h → Wx X h H → va_S (aA (eB X)) s.heap H locs → ∀ (ls : Array Slot), lv_has ls 7 [(0, .ref x0), (3, .int x3), (4, .int x4)] → sX15_solve_246 F f h x0 x3 x4 = some o → W p l e (rmA 8 219 h0 o.2) s m args below meth c H locs (hS h - hS h0) (hL h - hL h0) (MQ below (QIA X h0 o.1 o.2) args s (hS o.2 - hS h0) (hL o.2 - hL h0) (aA (eB X))) (F0 m 246 ls []) := by
  intro f
  induction f with
  | zero =>
    intro h x0 x3 x4 H locs k_x0 hkl hW hZ ls hl hE
    rw [sX15_solve_246] at hE
    cases hE
  | succ f ih =>
    intro h x0 x3 x4 H locs k_x0 hkl hW hZ ls hl hE
    rw [sX15_solve_246] at hE
    have mk_246 : ∀ (h : Hp) (x0 : Nat) (x3 : Int32) (x4 : Int32), sX15_solve_246 F f h x0 x3 x4 = some o → Le h o.2 := fun h x0 x3 x4 hE => moX15_solve_246 _ hE
    have hk_246 : ∀ (h : Hp) (x0 : Nat) (x3 : Int32) (x4 : Int32) (H : Heap) (locs : List Loc), hK h x0 = 15 → Kl h0 h → Wx X h H → va_S (aA (eB X)) s.heap H locs → ∀ (ls : Array Slot), lv_has ls 7 [(0, .ref x0), (3, .int x3), (4, .int x4)] → sX15_solve_246 F f h x0 x3 x4 = some o → W p l e (rmA 8 219 h0 o.2) s m args below meth c H locs (hS h - hS h0) (hL h - hL h0) (MQ below (QIA X h0 o.1 o.2) args s (hS o.2 - hS h0) (hL o.2 - hL h0) (aA (eB X))) (F0 m 246 ls []) := fun h x0 x3 x4 H locs k_x0 a b c ls hl hE => ih k_x0 a b c ls hl hE
    refine lv_iload C.1 C.2.1 dX15_solve_246 (lv_at hl 2 rfl) ?_
    refine lv_aload_n C.1 C.2.1 dX15_solve_248 rfl (lv_at hl 0 rfl) ?_
    refine gf_X15_751 C hW k_x0 dX15_solve_249 ?_
    refine lv_icmp_ge (tgt := 288) C.1 C.2.1 dX15_solve_252 (by decide) (fun c_1 => ?_) (fun c_1 => ?_)
    · have hE := br_p hE c_1
      refine lv_aload_n C.1 C.2.1 dX15_solve_288 rfl (lv_at hl 0 rfl) ?_
      rcases e_3 : hR h x0 52 with _ | r_2
      · have hE := onr_n hE e_3
        refine y_getr0 C hW k_x0 i_X15 (by decide) rfl (by decide) m_2163 rfl e_3 dX15_solve_289 ?_
        refine lv_ifnonnullN C.1 C.2.1 dX15_solve_292 ?_
        refine lv_aload_n C.1 C.2.1 dX15_solve_295 rfl (lv_at hl 0 rfl) ?_
        refine lv_ldcw (v := (1500000 : Int32)) C.1 C.2.1 C.2.2.2.1 (C.2.2.2.2.1 _ m_2777) dX15_solve_296 ?_
        obtain ⟨a_4, ea_4, hE⟩ := nm_e2 hE
        obtain ⟨h_5, eh_5, hE⟩ := nm_e2 hE
        refine y_newa (k := 18) (ty := .long) (t0 := 2) C hW hZ hkl (moX15_solve_301 hE) ⟨rfl, rfl⟩ (by decide) (by decide) rfl rfl (by intro C hC; cases hC) hdef_18 m_258 (by decide) (by decide) eh_5 dX15_solve_299 (fun _ hW km k_a_4 hZ => ?_)
        replace hkl := hkl.tr km
        refine x_nmA ea_4 ?_
        rw [← ea_4] at k_a_4
        replace k_x0 := km.at k_x0 (by decide)
        exact bX15_solve_301 C k_x0 k_a_4 k_x0 hkl hW hZ _ (lv_sub hl [0, 1] rfl) hE
      · have hE := onr_s hE e_3
        refine gf_X15_770 C hW k_x0 e_3 dX15_solve_289 (fun k_r_2 => ?_)
        refine lv_ifnonnull (tgt := 304) C.1 C.2.1 dX15_solve_292 (by decide) ?_
        exact bX15_solve_304 C k_x0 hkl hW hZ _ (lv_sub hl [0, 1] rfl) hE
    · have hE := br_n hE c_1
      refine lv_aload_n C.1 C.2.1 dX15_solve_255 rfl (lv_at hl 0 rfl) ?_
      obtain ⟨r_6, er_6, hE⟩ := cl_e hE
      refine gf_X15_346 C hW k_x0 er_6 dX15_solve_256 (fun k_r_6 => ?_)
      refine lv_iload C.1 C.2.1 dX15_solve_259 (lv_at hl 2 rfl) ?_
      refine lv_iload_n C.1 C.2.1 dX15_solve_261 rfl (lv_at hl 1 rfl) ?_
      obtain ⟨g_7, hE⟩ := gd_e hE
      obtain ⟨h_8, eh_8, hE⟩ := nm_e2 hE
      refine y_iast C hW hZ k_r_6 g_7 eh_8 dX15_solve_262 (fun _ _ hW km hZ => ?_)
      replace hkl := hkl.tr km.l
      refine x_wc km ?_
      replace k_x0 := km.at k_x0 (by decide)
      refine lv_iload_n C.1 C.2.1 dX15_solve_263 rfl (lv_at hl 1 rfl) ?_
      refine lv_aload_n C.1 C.2.1 dX15_solve_264 rfl (lv_at hl 0 rfl) ?_
      refine lv_iload C.1 C.2.1 dX15_solve_265 (lv_at hl 2 rfl) ?_
      obtain ⟨o_9, eo_9, hE⟩ := cl_e hE
      have m1 := moX15_sizeOf eo_9
      have m2 := moX15_solve_270 mk_246 hE
      refine x_kI (o := o_9) (z_runV (As := [.int x4]) (rest := [.int x3]) C (ct_X15_sizeOf l X F k_x0 eo_9) cw_X15_801 hW hZ k_x0 (by decide) rfl rfl rfl hl.1 (Nat.le_of_ble_eq_true rfl) rfl dX15_solve_267 ⟨Nat.le_of_ble_eq_true rfl, Nat.le_of_ble_eq_true rfl⟩ (rm_ok0 hkl m1 m2)) hZ (fun _ _ hW km hZ => ?_)
      replace hkl := hkl.tr km.l
      refine x_wc km ?_
      replace k_x0 := km.at k_x0 (by decide)
      exact bX15_solve_270 C hk_246 mk_246 k_x0 hkl hW hZ _ (lv_sub hl [0, 2] rfl) hE
set_option maxRecDepth 20000 in
theorem bX15_solve_235 {p : Program} {l : Launch} {e : Env} {s : State} {m : MethodId} {args : Array Value} {below : List Frame} {meth : Method} {c : Code} {X : Ec} {h0 : Hp} {o : Int32 × Hp} {F : Nat} (C : Cx X p s m args meth c RX15 cX15_solve 7 (some .int) "solve") {h : Hp} {x0 : Nat} {t0 : Int32} {H : Heap} {locs : List Loc} (k_x0 : hK h x0 = 15) (hkl : Kl h0 h) (hW : Wx X h H) (hZ : va_S (aA (eB X)) s.heap H locs) (ls : Array Slot) (hl : lv_has ls 7 [(0, .ref x0)]) (hE : sX15_solve_235 F h x0 t0 = some o) : W p l e (rmA 8 219 h0 o.2) s m args below meth c H locs (hS h - hS h0) (hL h - hL h0) (MQ below (QIA X h0 o.1 o.2) args s (hS o.2 - hS h0) (hL o.2 - hL h0) (aA (eB X))) (F0 m 235 ls [.int t0]) := by
  refine lv_if_ne (tgt := 241) C.1 C.2.1 dX15_solve_235 (by decide) (fun c_1 => ?_) (fun c_1 => ?_)
  · have hE := br_n hE c_1
    refine lv_iconst (v := (0 : Int32)) C.1 C.2.1 dX15_solve_241 (by decide) ?_
    refine lv_istore_n (lv' := [(3, .int (0 : Int32)), (0, .ref x0)]) C.1 C.2.1 dX15_solve_242 rfl hl (by decide) rfl (fun ls hl => ?_)
    refine lv_iconst (v := (0 : Int32)) C.1 C.2.1 dX15_solve_243 (by decide) ?_
    refine lv_istore (lv' := [(4, .int (0 : Int32)), (3, .int (0 : Int32)), (0, .ref x0)]) C.1 C.2.1 dX15_solve_244 hl (by decide) rfl (fun ls hl => ?_)
    exact bX15_solve_246 C F k_x0 hkl hW hZ _ (lv_sub hl [2, 1, 0] rfl) hE
  · have hE := br_p hE c_1
    exact bX15_solve_238 C hkl hW hZ _ (lv_sub hl [] rfl) hE
set_option maxRecDepth 20000 in
theorem bX15_solve_228 {p : Program} {l : Launch} {e : Env} {s : State} {m : MethodId} {args : Array Value} {below : List Frame} {meth : Method} {c : Code} {X : Ec} {h0 : Hp} {o : Int32 × Hp} {F : Nat} (C : Cx X p s m args meth c RX15 cX15_solve 7 (some .int) "solve") {h : Hp} {x0 : Nat} {t0 : Int32} {H : Heap} {locs : List Loc} (k_x0 : hK h x0 = 15) (hkl : Kl h0 h) (hW : Wx X h H) (hZ : va_S (aA (eB X)) s.heap H locs) (ls : Array Slot) (hl : lv_has ls 7 [(0, .ref x0)]) (hE : sX15_solve_228 F h x0 t0 = some o) : W p l e (rmA 8 219 h0 o.2) s m args below meth c H locs (hS h - hS h0) (hL h - hL h0) (MQ below (QIA X h0 o.1 o.2) args s (hS o.2 - hS h0) (hL o.2 - hL h0) (aA (eB X))) (F0 m 228 ls [.int t0]) := by
  refine lv_if_eq (tgt := 238) C.1 C.2.1 dX15_solve_228 (by decide) (fun c_1 => ?_) (fun c_1 => ?_)
  · have hE := br_p hE c_1
    exact bX15_solve_238 C hkl hW hZ _ (lv_sub hl [] rfl) hE
  · have hE := br_n hE c_1
    refine lv_aload_n C.1 C.2.1 dX15_solve_231 rfl (lv_at hl 0 rfl) ?_
    obtain ⟨o_2, eo_2, hE⟩ := cl_e hE
    have m1 := moX15_addAll eo_2
    have m2 := moX15_solve_235 hE
    refine x_kI (o := o_2) (z_runV (As := []) (rest := []) C (ct_X15_addAll l X F k_x0 eo_2) cw_X15_810 hW hZ k_x0 (by decide) rfl rfl rfl hl.1 (Nat.le_of_ble_eq_true rfl) rfl dX15_solve_232 ⟨Nat.le_of_ble_eq_true rfl, Nat.le_of_ble_eq_true rfl⟩ (rm_ok0 hkl m1 m2)) hZ (fun _ _ hW km hZ => ?_)
    replace hkl := hkl.tr km.l
    refine x_wc km ?_
    replace k_x0 := km.at k_x0 (by decide)
    exact bX15_solve_235 C k_x0 hkl hW hZ _ (lv_sub hl [0] rfl) hE
set_option maxRecDepth 20000 in
theorem bX15_solve_203 {p : Program} {l : Launch} {e : Env} {s : State} {m : MethodId} {args : Array Value} {below : List Frame} {meth : Method} {c : Code} {X : Ec} {h0 : Hp} {o : Int32 × Hp} {F : Nat} (C : Cx X p s m args meth c RX15 cX15_solve 7 (some .int) "solve") : ∀ (f : Nat) {h : Hp} {x0 : Nat} {x1 : Int32} {x3 : Int32} {H : Heap} {locs : List Loc} (k_x0 : hK h x0 = 15), Kl h0 h → Wx X h H → va_S (aA (eB X)) s.heap H locs → ∀ (ls : Array Slot), lv_has ls 7 [(0, .ref x0), (1, .int x1), (3, .int x3)] → sX15_solve_203 F f h x0 x1 x3 = some o → W p l e (rmA 8 219 h0 o.2) s m args below meth c H locs (hS h - hS h0) (hL h - hL h0) (MQ below (QIA X h0 o.1 o.2) args s (hS o.2 - hS h0) (hL o.2 - hL h0) (aA (eB X))) (F0 m 203 ls []) := by
  intro f
  induction f with
  | zero =>
    intro h x0 x1 x3 H locs k_x0 hkl hW hZ ls hl hE
    rw [sX15_solve_203] at hE
    cases hE
  | succ f ih =>
    intro h x0 x1 x3 H locs k_x0 hkl hW hZ ls hl hE
    rw [sX15_solve_203] at hE
    have mk_203 : ∀ (h : Hp) (x0 : Nat) (x1 : Int32) (x3 : Int32), sX15_solve_203 F f h x0 x1 x3 = some o → Le h o.2 := fun h x0 x1 x3 hE => moX15_solve_203 _ hE
    have hk_203 : ∀ (h : Hp) (x0 : Nat) (x1 : Int32) (x3 : Int32) (H : Heap) (locs : List Loc), hK h x0 = 15 → Kl h0 h → Wx X h H → va_S (aA (eB X)) s.heap H locs → ∀ (ls : Array Slot), lv_has ls 7 [(0, .ref x0), (1, .int x1), (3, .int x3)] → sX15_solve_203 F f h x0 x1 x3 = some o → W p l e (rmA 8 219 h0 o.2) s m args below meth c H locs (hS h - hS h0) (hL h - hL h0) (MQ below (QIA X h0 o.1 o.2) args s (hS o.2 - hS h0) (hL o.2 - hL h0) (aA (eB X))) (F0 m 203 ls []) := fun h x0 x1 x3 H locs k_x0 a b c ls hl hE => ih k_x0 a b c ls hl hE
    refine lv_iload_n C.1 C.2.1 dX15_solve_203 rfl (lv_at hl 2 rfl) ?_
    refine lv_sipush (v := (16384 : Int32)) C.1 C.2.1 dX15_solve_204 (by decide) ?_
    refine lv_icmp_ge (tgt := 223) C.1 C.2.1 dX15_solve_207 (by decide) (fun c_1 => ?_) (fun c_1 => ?_)
    · have hE := br_p hE c_1
      refine lv_aload_n C.1 C.2.1 dX15_solve_223 rfl (lv_at hl 0 rfl) ?_
      refine lv_iload_n C.1 C.2.1 dX15_solve_224 rfl (lv_at hl 1 rfl) ?_
      obtain ⟨o_2, eo_2, hE⟩ := cl_e hE
      have m1 := moX15_addSet eo_2
      have m2 := moX15_solve_228 hE
      refine x_kI (o := o_2) (z_runV (As := [.int x1]) (rest := []) C (ct_X15_addSet l X F k_x0 eo_2) cw_X15_754 hW hZ k_x0 (by decide) rfl rfl rfl hl.1 (Nat.le_of_ble_eq_true rfl) rfl dX15_solve_225 ⟨Nat.le_of_ble_eq_true rfl, Nat.le_of_ble_eq_true rfl⟩ (rm_ok0 hkl m1 m2)) hZ (fun _ _ hW km hZ => ?_)
      replace hkl := hkl.tr km.l
      refine x_wc km ?_
      replace k_x0 := km.at k_x0 (by decide)
      exact bX15_solve_228 C k_x0 hkl hW hZ _ (lv_sub hl [0] rfl) hE
    · have hE := br_n hE c_1
      refine lv_aload_n C.1 C.2.1 dX15_solve_210 rfl (lv_at hl 0 rfl) ?_
      obtain ⟨r_3, er_3, hE⟩ := cl_e hE
      refine gf_X15_356 C hW k_x0 er_3 dX15_solve_211 (fun k_r_3 => ?_)
      refine lv_iload_n C.1 C.2.1 dX15_solve_214 rfl (lv_at hl 2 rfl) ?_
      refine lv_iconst (v := (0 : Int32)) C.1 C.2.1 dX15_solve_215 (by decide) ?_
      obtain ⟨g_4, hE⟩ := gd_e hE
      obtain ⟨h_5, eh_5, hE⟩ := nm_e2 hE
      refine y_iast C hW hZ k_r_3 g_4 eh_5 dX15_solve_216 (fun _ _ hW km hZ => ?_)
      replace hkl := hkl.tr km.l
      refine x_wc km ?_
      replace k_x0 := km.at k_x0 (by decide)
      obtain ⟨v_6, ev_6, hE⟩ := nm_e2 hE
      refine lv_iinc (v := v_6) (lv' := [(3, .int v_6), (0, .ref x0), (1, .int x1)]) C.1 C.2.1 dX15_solve_217 hl (k := 2) rfl (by rw [ev_6]; rfl) (by decide) rfl (fun ls hl => ?_)
      refine lv_goto (tgt := 203) C.1 C.2.1 dX15_solve_220 (by decide) ?_
      exact hk_203 _ _ _ _ _ _ k_x0 hkl hW hZ _ (lv_sub hl [1, 2, 0] rfl) hE
set_option maxRecDepth 20000 in
theorem bX15_solve_126 {p : Program} {l : Launch} {e : Env} {s : State} {m : MethodId} {args : Array Value} {below : List Frame} {meth : Method} {c : Code} {X : Ec} {h0 : Hp} {o : Int32 × Hp} {F : Nat} (C : Cx X p s m args meth c RX15 cX15_solve 7 (some .int) "solve") {h : Hp} {x3 : Int32} {H : Heap} {locs : List Loc} (hkl : Kl h0 h) (hW : Wx X h H) (hZ : va_S (aA (eB X)) s.heap H locs) (ls : Array Slot) (hl : lv_has ls 7 [(3, .int x3)]) (hE : sX15_solve_126 F h x3 = some o) : W p l e (rmA 8 219 h0 o.2) s m args below meth c H locs (hS h - hS h0) (hL h - hL h0) (MQ below (QIA X h0 o.1 o.2) args s (hS o.2 - hS h0) (hL o.2 - hL h0) (aA (eB X))) (F0 m 126 ls []) := by
  refine lv_sipush (v := (-200 : Int32)) C.1 C.2.1 dX15_solve_126 (by decide) ?_
  refine lv_iload_n C.1 C.2.1 dX15_solve_129 rfl (lv_at hl 0 rfl) ?_
  refine lv_isub C.1 C.2.1 dX15_solve_130 ?_
  exact x_iretA C rfl rfl hW hZ hkl hE dX15_solve_131
set_option maxRecDepth 20000 in
theorem bX15_solve_159 {p : Program} {l : Launch} {e : Env} {s : State} {m : MethodId} {args : Array Value} {below : List Frame} {meth : Method} {c : Code} {X : Ec} {h0 : Hp} {o : Int32 × Hp} {k_54 : Hp → Nat → Int32 → Int32 → Int32 → Option (Int32 × Hp)} {F : Nat} (C : Cx X p s m args meth c RX15 cX15_solve 7 (some .int) "solve") (hk_54 : ∀ (h : Hp) (x0 : Nat) (x1 : Int32) (x2 : Int32) (x3 : Int32) (H : Heap) (locs : List Loc), hK h x0 = 15 → Kl h0 h → Wx X h H → va_S (aA (eB X)) s.heap H locs → ∀ (ls : Array Slot), lv_has ls 7 [(0, .ref x0), (1, .int x1), (2, .int x2), (3, .int x3)] → k_54 h x0 x1 x2 x3 = some o → W p l e (rmA 8 219 h0 o.2) s m args below meth c H locs (hS h - hS h0) (hL h - hL h0) (MQ below (QIA X h0 o.1 o.2) args s (hS o.2 - hS h0) (hL o.2 - hL h0) (aA (eB X))) (F0 m 54 ls [])) (mk_54 : ∀ (h : Hp) (x0 : Nat) (x1 : Int32) (x2 : Int32) (x3 : Int32), k_54 h x0 x1 x2 x3 = some o → Le h o.2) {h : Hp} {x0 : Nat} {x1 : Int32} {x3 : Int32} {x4 : Int32} {t0 : Int32} {t1 : Int32} {H : Heap} {locs : List Loc} (k_x0 : hK h x0 = 15) (hkl : Kl h0 h) (hW : Wx X h H) (hZ : va_S (aA (eB X)) s.heap H locs) (ls : Array Slot) (hl : lv_has ls 7 [(0, .ref x0), (1, .int x1), (3, .int x3), (4, .int x4)]) (hE : sX15_solve_159 F k_54 h x0 x1 x3 x4 t0 t1 = some o) : W p l e (rmA 8 219 h0 o.2) s m args below meth c H locs (hS h - hS h0) (hL h - hL h0) (MQ below (QIA X h0 o.1 o.2) args s (hS o.2 - hS h0) (hL o.2 - hL h0) (aA (eB X))) (F0 m 159 ls [.int t0, .int t1]) := by
  refine lv_ior C.1 C.2.1 dX15_solve_159 ?_
  obtain ⟨v_1, ev_1, hE⟩ := nm_e2 hE
  refine x_nmI ev_1 ?_
  refine lv_istore_n (lv' := [(2, .int v_1), (0, .ref x0), (1, .int x1), (3, .int x3), (4, .int x4)]) C.1 C.2.1 dX15_solve_160 rfl hl (by decide) rfl (fun ls hl => ?_)
  refine lv_aload_n C.1 C.2.1 dX15_solve_161 rfl (lv_at hl 1 rfl) ?_
  obtain ⟨r_2, er_2, hE⟩ := cl_e hE
  refine gf_X15_359 C hW k_x0 er_2 dX15_solve_162 (fun k_r_2 => ?_)
  refine lv_iload_n C.1 C.2.1 dX15_solve_165 rfl (lv_at hl 3 rfl) ?_
  refine lv_iload C.1 C.2.1 dX15_solve_166 (lv_at hl 4 rfl) ?_
  obtain ⟨g_3, hE⟩ := gd_e hE
  obtain ⟨h_4, eh_4, hE⟩ := nm_e2 hE
  refine y_iast C hW hZ k_r_2 g_3 eh_4 dX15_solve_168 (fun _ _ hW km hZ => ?_)
  replace hkl := hkl.tr km.l
  refine x_wc km ?_
  replace k_x0 := km.at k_x0 (by decide)
  obtain ⟨v_5, ev_5, hE⟩ := nm_e2 hE
  refine lv_iinc (v := v_5) (lv' := [(3, .int v_5), (2, .int v_1), (0, .ref x0), (1, .int x1), (4, .int x4)]) C.1 C.2.1 dX15_solve_169 hl (k := 3) rfl (by rw [ev_5]; rfl) (by decide) rfl (fun ls hl => ?_)
  refine lv_goto (tgt := 54) C.1 C.2.1 dX15_solve_172 (by decide) ?_
  exact hk_54 _ _ _ _ _ _ _ k_x0 hkl hW hZ _ (lv_sub hl [2, 3, 1, 0] rfl) hE
set_option maxRecDepth 20000 in
theorem bX15_solve_154 {p : Program} {l : Launch} {e : Env} {s : State} {m : MethodId} {args : Array Value} {below : List Frame} {meth : Method} {c : Code} {X : Ec} {h0 : Hp} {o : Int32 × Hp} {k_54 : Hp → Nat → Int32 → Int32 → Int32 → Option (Int32 × Hp)} {F : Nat} (C : Cx X p s m args meth c RX15 cX15_solve 7 (some .int) "solve") (hk_54 : ∀ (h : Hp) (x0 : Nat) (x1 : Int32) (x2 : Int32) (x3 : Int32) (H : Heap) (locs : List Loc), hK h x0 = 15 → Kl h0 h → Wx X h H → va_S (aA (eB X)) s.heap H locs → ∀ (ls : Array Slot), lv_has ls 7 [(0, .ref x0), (1, .int x1), (2, .int x2), (3, .int x3)] → k_54 h x0 x1 x2 x3 = some o → W p l e (rmA 8 219 h0 o.2) s m args below meth c H locs (hS h - hS h0) (hL h - hL h0) (MQ below (QIA X h0 o.1 o.2) args s (hS o.2 - hS h0) (hL o.2 - hL h0) (aA (eB X))) (F0 m 54 ls [])) (mk_54 : ∀ (h : Hp) (x0 : Nat) (x1 : Int32) (x2 : Int32) (x3 : Int32), k_54 h x0 x1 x2 x3 = some o → Le h o.2) {h : Hp} {x0 : Nat} {x1 : Int32} {x3 : Int32} {x4 : Int32} {t0 : Int32} {t1 : Int32} {t2 : Int32} {H : Heap} {locs : List Loc} (k_x0 : hK h x0 = 15) (hkl : Kl h0 h) (hW : Wx X h H) (hZ : va_S (aA (eB X)) s.heap H locs) (ls : Array Slot) (hl : lv_has ls 7 [(0, .ref x0), (1, .int x1), (3, .int x3), (4, .int x4)]) (hE : sX15_solve_154 F k_54 h x0 x1 x3 x4 t0 t1 t2 = some o) : W p l e (rmA 8 219 h0 o.2) s m args below meth c H locs (hS h - hS h0) (hL h - hL h0) (MQ below (QIA X h0 o.1 o.2) args s (hS o.2 - hS h0) (hL o.2 - hL h0) (aA (eB X))) (F0 m 154 ls [.int t0, .int t1, .int t2]) := by
  refine lv_ishl C.1 C.2.1 dX15_solve_154 ?_
  refine lv_goto (tgt := 159) C.1 C.2.1 dX15_solve_155 (by decide) ?_
  exact bX15_solve_159 C hk_54 mk_54 k_x0 hkl hW hZ _ (lv_sub hl [0, 1, 2, 3] rfl) hE
set_option maxRecDepth 20000 in
theorem bX15_solve_138 {p : Program} {l : Launch} {e : Env} {s : State} {m : MethodId} {args : Array Value} {below : List Frame} {meth : Method} {c : Code} {X : Ec} {h0 : Hp} {o : Int32 × Hp} {k_54 : Hp → Nat → Int32 → Int32 → Int32 → Option (Int32 × Hp)} {F : Nat} (C : Cx X p s m args meth c RX15 cX15_solve 7 (some .int) "solve") (hk_54 : ∀ (h : Hp) (x0 : Nat) (x1 : Int32) (x2 : Int32) (x3 : Int32) (H : Heap) (locs : List Loc), hK h x0 = 15 → Kl h0 h → Wx X h H → va_S (aA (eB X)) s.heap H locs → ∀ (ls : Array Slot), lv_has ls 7 [(0, .ref x0), (1, .int x1), (2, .int x2), (3, .int x3)] → k_54 h x0 x1 x2 x3 = some o → W p l e (rmA 8 219 h0 o.2) s m args below meth c H locs (hS h - hS h0) (hL h - hL h0) (MQ below (QIA X h0 o.1 o.2) args s (hS o.2 - hS h0) (hL o.2 - hL h0) (aA (eB X))) (F0 m 54 ls [])) (mk_54 : ∀ (h : Hp) (x0 : Nat) (x1 : Int32) (x2 : Int32) (x3 : Int32), k_54 h x0 x1 x2 x3 = some o → Le h o.2) {h : Hp} {x0 : Nat} {x1 : Int32} {x3 : Int32} {x4 : Int32} {t0 : Int32} {t1 : Int32} {H : Heap} {locs : List Loc} (k_x0 : hK h x0 = 15) (hkl : Kl h0 h) (hW : Wx X h H) (hZ : va_S (aA (eB X)) s.heap H locs) (ls : Array Slot) (hl : lv_has ls 7 [(0, .ref x0), (1, .int x1), (3, .int x3), (4, .int x4)]) (hE : sX15_solve_138 F k_54 h x0 x1 x3 x4 t0 t1 = some o) : W p l e (rmA 8 219 h0 o.2) s m args below meth c H locs (hS h - hS h0) (hL h - hL h0) (MQ below (QIA X h0 o.1 o.2) args s (hS o.2 - hS h0) (hL o.2 - hL h0) (aA (eB X))) (F0 m 138 ls [.int t0, .int t1]) := by
  refine lv_aload_n C.1 C.2.1 dX15_solve_138 rfl (lv_at hl 0 rfl) ?_
  obtain ⟨r_1, er_1, hE⟩ := cl_e hE
  refine gf_X15_252 C hW k_x0 er_1 dX15_solve_139 (fun k_r_1 => ?_)
  refine gf_X15_221 C hW k_r_1 dX15_solve_142 ?_
  refine lv_icmp_ne (tgt := 158) C.1 C.2.1 dX15_solve_145 (by decide) (fun c_2 => ?_) (fun c_2 => ?_)
  · have hE := br_n hE c_2
    refine lv_iconst (v := (0 : Int32)) C.1 C.2.1 dX15_solve_158 (by decide) ?_
    exact bX15_solve_159 C hk_54 mk_54 k_x0 hkl hW hZ _ (lv_sub hl [0, 1, 2, 3] rfl) hE
  · have hE := br_p hE c_2
    refine lv_iconst (v := (1 : Int32)) C.1 C.2.1 dX15_solve_148 (by decide) ?_
    refine lv_iload C.1 C.2.1 dX15_solve_149 (lv_at hl 3 rfl) ?_
    obtain ⟨o_3, eo_3, hE⟩ := cl_e hE
    have m1 := moX15_sideOf eo_3
    have m2 := moX15_solve_154 mk_54 hE
    refine x_kI (o := o_3) (z_runS (As := [.int x4]) (rest := [.int (1 : Int32), .int t1]) C (ct_X15_sideOf l X eo_3) cw_X15_489 hW hZ rfl hl.1 (Nat.le_of_ble_eq_true rfl) rfl dX15_solve_151 ⟨Nat.le_of_ble_eq_true rfl, Nat.le_of_ble_eq_true rfl⟩ (rm_ok0 hkl m1 m2)) hZ (fun _ _ hW km hZ => ?_)
    replace hkl := hkl.tr km.l
    refine x_wc km ?_
    replace k_x0 := km.at k_x0 (by decide)
    exact bX15_solve_154 C hk_54 mk_54 k_x0 hkl hW hZ _ (lv_sub hl [0, 1, 2, 3] rfl) hE
set_option maxRecDepth 20000 in
theorem bX15_solve_109 {p : Program} {l : Launch} {e : Env} {s : State} {m : MethodId} {args : Array Value} {below : List Frame} {meth : Method} {c : Code} {X : Ec} {h0 : Hp} {o : Int32 × Hp} {k_54 : Hp → Nat → Int32 → Int32 → Int32 → Option (Int32 × Hp)} {F : Nat} (C : Cx X p s m args meth c RX15 cX15_solve 7 (some .int) "solve") (hk_54 : ∀ (h : Hp) (x0 : Nat) (x1 : Int32) (x2 : Int32) (x3 : Int32) (H : Heap) (locs : List Loc), hK h x0 = 15 → Kl h0 h → Wx X h H → va_S (aA (eB X)) s.heap H locs → ∀ (ls : Array Slot), lv_has ls 7 [(0, .ref x0), (1, .int x1), (2, .int x2), (3, .int x3)] → k_54 h x0 x1 x2 x3 = some o → W p l e (rmA 8 219 h0 o.2) s m args below meth c H locs (hS h - hS h0) (hL h - hL h0) (MQ below (QIA X h0 o.1 o.2) args s (hS o.2 - hS h0) (hL o.2 - hL h0) (aA (eB X))) (F0 m 54 ls [])) (mk_54 : ∀ (h : Hp) (x0 : Nat) (x1 : Int32) (x2 : Int32) (x3 : Int32), k_54 h x0 x1 x2 x3 = some o → Le h o.2) {h : Hp} {x0 : Nat} {x1 : Int32} {x2 : Int32} {x3 : Int32} {x4 : Int32} {t0 : Int32} {H : Heap} {locs : List Loc} (k_x0 : hK h x0 = 15) (hkl : Kl h0 h) (hW : Wx X h H) (hZ : va_S (aA (eB X)) s.heap H locs) (ls : Array Slot) (hl : lv_has ls 7 [(0, .ref x0), (1, .int x1), (2, .int x2), (3, .int x3), (4, .int x4)]) (hE : sX15_solve_109 F k_54 h x0 x1 x2 x3 x4 t0 = some o) : W p l e (rmA 8 219 h0 o.2) s m args below meth c H locs (hS h - hS h0) (hL h - hL h0) (MQ below (QIA X h0 o.1 o.2) args s (hS o.2 - hS h0) (hL o.2 - hL h0) (aA (eB X))) (F0 m 109 ls [.int t0]) := by
  refine lv_istore (lv' := [(5, .int t0), (0, .ref x0), (1, .int x1), (2, .int x2), (3, .int x3), (4, .int x4)]) C.1 C.2.1 dX15_solve_109 hl (by decide) rfl (fun ls hl => ?_)
  refine lv_iload C.1 C.2.1 dX15_solve_111 (lv_at hl 5 rfl) ?_
  refine lv_if_eq (tgt := 126) C.1 C.2.1 dX15_solve_113 (by decide) (fun c_1 => ?_) (fun c_1 => ?_)
  · have hE := br_p hE c_1
    exact bX15_solve_126 C hkl hW hZ _ (lv_sub hl [4] rfl) hE
  · have hE := br_n hE c_1
    refine lv_iload C.1 C.2.1 dX15_solve_116 (lv_at hl 0 rfl) ?_
    refine lv_if_ne (tgt := 126) C.1 C.2.1 dX15_solve_118 (by decide) (fun c_2 => ?_) (fun c_2 => ?_)
    · have hE := br_n hE c_2
      exact bX15_solve_126 C hkl hW hZ _ (lv_sub hl [4] rfl) hE
    · have hE := br_p hE c_2
      refine lv_iload_n C.1 C.2.1 dX15_solve_121 rfl (lv_at hl 4 rfl) ?_
      refine lv_iconst (v := (5 : Int32)) C.1 C.2.1 dX15_solve_122 (by decide) ?_
      refine lv_icmp_ne (tgt := 132) C.1 C.2.1 dX15_solve_123 (by decide) (fun c_3 => ?_) (fun c_3 => ?_)
      · have hE := br_n hE c_3
        refine lv_iload_n C.1 C.2.1 dX15_solve_132 rfl (lv_at hl 3 rfl) ?_
        refine lv_iload C.1 C.2.1 dX15_solve_133 (lv_at hl 5 rfl) ?_
        obtain ⟨o_4, eo_4, hE⟩ := cl_e hE
        have m1 := moX15_manOf eo_4
        have m2 := moX15_solve_138 mk_54 hE
        refine x_kI (o := o_4) (z_runS (As := [.int x4]) (rest := [.int x2]) C (ct_X15_manOf l X eo_4) cw_X15_492 hW hZ rfl hl.1 (Nat.le_of_ble_eq_true rfl) rfl dX15_solve_135 ⟨Nat.le_of_ble_eq_true rfl, Nat.le_of_ble_eq_true rfl⟩ (rm_ok0 hkl m1 m2)) hZ (fun _ _ hW km hZ => ?_)
        replace hkl := hkl.tr km.l
        refine x_wc km ?_
        replace k_x0 := km.at k_x0 (by decide)
        exact bX15_solve_138 C hk_54 mk_54 k_x0 hkl hW hZ _ (lv_sub hl [1, 2, 4, 5] rfl) hE
      · have hE := br_p hE c_3
        exact bX15_solve_126 C hkl hW hZ _ (lv_sub hl [4] rfl) hE
set_option maxRecDepth 20000 in
theorem bX15_solve_108 {p : Program} {l : Launch} {e : Env} {s : State} {m : MethodId} {args : Array Value} {below : List Frame} {meth : Method} {c : Code} {X : Ec} {h0 : Hp} {o : Int32 × Hp} {k_54 : Hp → Nat → Int32 → Int32 → Int32 → Option (Int32 × Hp)} {F : Nat} (C : Cx X p s m args meth c RX15 cX15_solve 7 (some .int) "solve") (hk_54 : ∀ (h : Hp) (x0 : Nat) (x1 : Int32) (x2 : Int32) (x3 : Int32) (H : Heap) (locs : List Loc), hK h x0 = 15 → Kl h0 h → Wx X h H → va_S (aA (eB X)) s.heap H locs → ∀ (ls : Array Slot), lv_has ls 7 [(0, .ref x0), (1, .int x1), (2, .int x2), (3, .int x3)] → k_54 h x0 x1 x2 x3 = some o → W p l e (rmA 8 219 h0 o.2) s m args below meth c H locs (hS h - hS h0) (hL h - hL h0) (MQ below (QIA X h0 o.1 o.2) args s (hS o.2 - hS h0) (hL o.2 - hL h0) (aA (eB X))) (F0 m 54 ls [])) (mk_54 : ∀ (h : Hp) (x0 : Nat) (x1 : Int32) (x2 : Int32) (x3 : Int32), k_54 h x0 x1 x2 x3 = some o → Le h o.2) {h : Hp} {x0 : Nat} {x1 : Int32} {x2 : Int32} {x3 : Int32} {x4 : Int32} {H : Heap} {locs : List Loc} (k_x0 : hK h x0 = 15) (hkl : Kl h0 h) (hW : Wx X h H) (hZ : va_S (aA (eB X)) s.heap H locs) (ls : Array Slot) (hl : lv_has ls 7 [(0, .ref x0), (1, .int x1), (2, .int x2), (3, .int x3), (4, .int x4)]) (hE : sX15_solve_108 F k_54 h x0 x1 x2 x3 x4 = some o) : W p l e (rmA 8 219 h0 o.2) s m args below meth c H locs (hS h - hS h0) (hL h - hL h0) (MQ below (QIA X h0 o.1 o.2) args s (hS o.2 - hS h0) (hL o.2 - hL h0) (aA (eB X))) (F0 m 108 ls []) := by
  refine lv_iconst (v := (0 : Int32)) C.1 C.2.1 dX15_solve_108 (by decide) ?_
  exact bX15_solve_109 C hk_54 mk_54 k_x0 hkl hW hZ _ (lv_sub hl [0, 1, 2, 3, 4] rfl) hE
set_option maxRecDepth 20000 in
theorem bX15_solve_97 {p : Program} {l : Launch} {e : Env} {s : State} {m : MethodId} {args : Array Value} {below : List Frame} {meth : Method} {c : Code} {X : Ec} {h0 : Hp} {o : Int32 × Hp} {k_54 : Hp → Nat → Int32 → Int32 → Int32 → Option (Int32 × Hp)} {F : Nat} (C : Cx X p s m args meth c RX15 cX15_solve 7 (some .int) "solve") (hk_54 : ∀ (h : Hp) (x0 : Nat) (x1 : Int32) (x2 : Int32) (x3 : Int32) (H : Heap) (locs : List Loc), hK h x0 = 15 → Kl h0 h → Wx X h H → va_S (aA (eB X)) s.heap H locs → ∀ (ls : Array Slot), lv_has ls 7 [(0, .ref x0), (1, .int x1), (2, .int x2), (3, .int x3)] → k_54 h x0 x1 x2 x3 = some o → W p l e (rmA 8 219 h0 o.2) s m args below meth c H locs (hS h - hS h0) (hL h - hL h0) (MQ below (QIA X h0 o.1 o.2) args s (hS o.2 - hS h0) (hL o.2 - hL h0) (aA (eB X))) (F0 m 54 ls [])) (mk_54 : ∀ (h : Hp) (x0 : Nat) (x1 : Int32) (x2 : Int32) (x3 : Int32), k_54 h x0 x1 x2 x3 = some o → Le h o.2) {h : Hp} {x0 : Nat} {x1 : Int32} {x2 : Int32} {x3 : Int32} {x4 : Int32} {t0 : Int32} {t1 : Int32} {H : Heap} {locs : List Loc} (k_x0 : hK h x0 = 15) (hkl : Kl h0 h) (hW : Wx X h H) (hZ : va_S (aA (eB X)) s.heap H locs) (ls : Array Slot) (hl : lv_has ls 7 [(0, .ref x0), (1, .int x1), (2, .int x2), (3, .int x3), (4, .int x4)]) (hE : sX15_solve_97 F k_54 h x0 x1 x2 x3 x4 t0 t1 = some o) : W p l e (rmA 8 219 h0 o.2) s m args below meth c H locs (hS h - hS h0) (hL h - hL h0) (MQ below (QIA X h0 o.1 o.2) args s (hS o.2 - hS h0) (hL o.2 - hL h0) (aA (eB X))) (F0 m 97 ls [.int t0, .int t1]) := by
  refine lv_ishr C.1 C.2.1 dX15_solve_97 ?_
  refine lv_iconst (v := (1 : Int32)) C.1 C.2.1 dX15_solve_98 (by decide) ?_
  refine lv_iand C.1 C.2.1 dX15_solve_99 ?_
  refine lv_iconst (v := (1 : Int32)) C.1 C.2.1 dX15_solve_100 (by decide) ?_
  refine lv_icmp_ne (tgt := 108) C.1 C.2.1 dX15_solve_101 (by decide) (fun c_1 => ?_) (fun c_1 => ?_)
  · have hE := br_n hE c_1
    exact bX15_solve_108 C hk_54 mk_54 k_x0 hkl hW hZ _ (lv_sub hl [0, 1, 2, 3, 4] rfl) hE
  · have hE := br_p hE c_1
    refine lv_iconst (v := (1 : Int32)) C.1 C.2.1 dX15_solve_104 (by decide) ?_
    refine lv_goto (tgt := 109) C.1 C.2.1 dX15_solve_105 (by decide) ?_
    exact bX15_solve_109 C hk_54 mk_54 k_x0 hkl hW hZ _ (lv_sub hl [0, 1, 2, 3, 4] rfl) hE
set_option maxRecDepth 20000 in
theorem bX15_solve_81 {p : Program} {l : Launch} {e : Env} {s : State} {m : MethodId} {args : Array Value} {below : List Frame} {meth : Method} {c : Code} {X : Ec} {h0 : Hp} {o : Int32 × Hp} {k_54 : Hp → Nat → Int32 → Int32 → Int32 → Option (Int32 × Hp)} {F : Nat} (C : Cx X p s m args meth c RX15 cX15_solve 7 (some .int) "solve") (hk_54 : ∀ (h : Hp) (x0 : Nat) (x1 : Int32) (x2 : Int32) (x3 : Int32) (H : Heap) (locs : List Loc), hK h x0 = 15 → Kl h0 h → Wx X h H → va_S (aA (eB X)) s.heap H locs → ∀ (ls : Array Slot), lv_has ls 7 [(0, .ref x0), (1, .int x1), (2, .int x2), (3, .int x3)] → k_54 h x0 x1 x2 x3 = some o → W p l e (rmA 8 219 h0 o.2) s m args below meth c H locs (hS h - hS h0) (hL h - hL h0) (MQ below (QIA X h0 o.1 o.2) args s (hS o.2 - hS h0) (hL o.2 - hL h0) (aA (eB X))) (F0 m 54 ls [])) (mk_54 : ∀ (h : Hp) (x0 : Nat) (x1 : Int32) (x2 : Int32) (x3 : Int32), k_54 h x0 x1 x2 x3 = some o → Le h o.2) {h : Hp} {x0 : Nat} {x1 : Int32} {x2 : Int32} {x3 : Int32} {x4 : Int32} {t0 : Int32} {H : Heap} {locs : List Loc} (k_x0 : hK h x0 = 15) (hkl : Kl h0 h) (hW : Wx X h H) (hZ : va_S (aA (eB X)) s.heap H locs) (ls : Array Slot) (hl : lv_has ls 7 [(0, .ref x0), (1, .int x1), (2, .int x2), (3, .int x3), (4, .int x4)]) (hE : sX15_solve_81 F k_54 h x0 x1 x2 x3 x4 t0 = some o) : W p l e (rmA 8 219 h0 o.2) s m args below meth c H locs (hS h - hS h0) (hL h - hL h0) (MQ below (QIA X h0 o.1 o.2) args s (hS o.2 - hS h0) (hL o.2 - hL h0) (aA (eB X))) (F0 m 81 ls [.int t0]) := by
  refine lv_aload_n C.1 C.2.1 dX15_solve_81 rfl (lv_at hl 0 rfl) ?_
  obtain ⟨r_1, er_1, hE⟩ := cl_e hE
  refine gf_X15_252 C hW k_x0 er_1 dX15_solve_82 (fun k_r_1 => ?_)
  refine gf_X15_221 C hW k_r_1 dX15_solve_85 ?_
  refine lv_icmp_ne (tgt := 108) C.1 C.2.1 dX15_solve_88 (by decide) (fun c_2 => ?_) (fun c_2 => ?_)
  · have hE := br_n hE c_2
    exact bX15_solve_108 C hk_54 mk_54 k_x0 hkl hW hZ _ (lv_sub hl [0, 1, 2, 3, 4] rfl) hE
  · have hE := br_p hE c_2
    refine lv_iload_n C.1 C.2.1 dX15_solve_91 rfl (lv_at hl 2 rfl) ?_
    refine lv_iload C.1 C.2.1 dX15_solve_92 (lv_at hl 4 rfl) ?_
    obtain ⟨o_3, eo_3, hE⟩ := cl_e hE
    have m1 := moX15_sideOf eo_3
    have m2 := moX15_solve_97 mk_54 hE
    refine x_kI (o := o_3) (z_runS (As := [.int x4]) (rest := [.int x2]) C (ct_X15_sideOf l X eo_3) cw_X15_489 hW hZ rfl hl.1 (Nat.le_of_ble_eq_true rfl) rfl dX15_solve_94 ⟨Nat.le_of_ble_eq_true rfl, Nat.le_of_ble_eq_true rfl⟩ (rm_ok0 hkl m1 m2)) hZ (fun _ _ hW km hZ => ?_)
    replace hkl := hkl.tr km.l
    refine x_wc km ?_
    replace k_x0 := km.at k_x0 (by decide)
    exact bX15_solve_97 C hk_54 mk_54 k_x0 hkl hW hZ _ (lv_sub hl [0, 1, 2, 3, 4] rfl) hE
set_option maxRecDepth 20000 in
theorem bX15_solve_69 {p : Program} {l : Launch} {e : Env} {s : State} {m : MethodId} {args : Array Value} {below : List Frame} {meth : Method} {c : Code} {X : Ec} {h0 : Hp} {o : Int32 × Hp} {k_54 : Hp → Nat → Int32 → Int32 → Int32 → Option (Int32 × Hp)} {F : Nat} (C : Cx X p s m args meth c RX15 cX15_solve 7 (some .int) "solve") (hk_54 : ∀ (h : Hp) (x0 : Nat) (x1 : Int32) (x2 : Int32) (x3 : Int32) (H : Heap) (locs : List Loc), hK h x0 = 15 → Kl h0 h → Wx X h H → va_S (aA (eB X)) s.heap H locs → ∀ (ls : Array Slot), lv_has ls 7 [(0, .ref x0), (1, .int x1), (2, .int x2), (3, .int x3)] → k_54 h x0 x1 x2 x3 = some o → W p l e (rmA 8 219 h0 o.2) s m args below meth c H locs (hS h - hS h0) (hL h - hL h0) (MQ below (QIA X h0 o.1 o.2) args s (hS o.2 - hS h0) (hL o.2 - hL h0) (aA (eB X))) (F0 m 54 ls [])) (mk_54 : ∀ (h : Hp) (x0 : Nat) (x1 : Int32) (x2 : Int32) (x3 : Int32), k_54 h x0 x1 x2 x3 = some o → Le h o.2) {h : Hp} {x0 : Nat} {x1 : Int32} {x2 : Int32} {x3 : Int32} {t0 : Int32} {H : Heap} {locs : List Loc} (k_x0 : hK h x0 = 15) (hkl : Kl h0 h) (hW : Wx X h H) (hZ : va_S (aA (eB X)) s.heap H locs) (ls : Array Slot) (hl : lv_has ls 7 [(0, .ref x0), (1, .int x1), (2, .int x2), (3, .int x3)]) (hE : sX15_solve_69 F k_54 h x0 x1 x2 x3 t0 = some o) : W p l e (rmA 8 219 h0 o.2) s m args below meth c H locs (hS h - hS h0) (hL h - hL h0) (MQ below (QIA X h0 o.1 o.2) args s (hS o.2 - hS h0) (hL o.2 - hL h0) (aA (eB X))) (F0 m 69 ls [.int t0]) := by
  refine lv_istore (lv' := [(4, .int t0), (0, .ref x0), (1, .int x1), (2, .int x2), (3, .int x3)]) C.1 C.2.1 dX15_solve_69 hl (by decide) rfl (fun ls hl => ?_)
  refine lv_iload C.1 C.2.1 dX15_solve_71 (lv_at hl 0 rfl) ?_
  refine lv_if_le (tgt := 108) C.1 C.2.1 dX15_solve_73 (by decide) (fun c_1 => ?_) (fun c_1 => ?_)
  · have hE := br_p hE c_1
    exact bX15_solve_108 C hk_54 mk_54 k_x0 hkl hW hZ _ (lv_sub hl [1, 2, 3, 4, 0] rfl) hE
  · have hE := br_n hE c_1
    refine lv_iload C.1 C.2.1 dX15_solve_76 (lv_at hl 0 rfl) ?_
    obtain ⟨o_2, eo_2, hE⟩ := cl_e hE
    have m1 := moX15_manOf eo_2
    have m2 := moX15_solve_81 mk_54 hE
    refine x_kI (o := o_2) (z_runS (As := [.int t0]) (rest := []) C (ct_X15_manOf l X eo_2) cw_X15_492 hW hZ rfl hl.1 (Nat.le_of_ble_eq_true rfl) rfl dX15_solve_78 ⟨Nat.le_of_ble_eq_true rfl, Nat.le_of_ble_eq_true rfl⟩ (rm_ok0 hkl m1 m2)) hZ (fun _ _ hW km hZ => ?_)
    replace hkl := hkl.tr km.l
    refine x_wc km ?_
    replace k_x0 := km.at k_x0 (by decide)
    exact bX15_solve_81 C hk_54 mk_54 k_x0 hkl hW hZ _ (lv_sub hl [1, 2, 3, 4, 0] rfl) hE
set_option maxRecDepth 20000 in
theorem bX15_solve_54 {p : Program} {l : Launch} {e : Env} {s : State} {m : MethodId} {args : Array Value} {below : List Frame} {meth : Method} {c : Code} {X : Ec} {h0 : Hp} {o : Int32 × Hp} {F : Nat} (C : Cx X p s m args meth c RX15 cX15_solve 7 (some .int) "solve") : ∀ (f : Nat) {h : Hp} {x0 : Nat} {x1 : Int32} {x2 : Int32} {x3 : Int32} {H : Heap} {locs : List Loc} (k_x0 : hK h x0 = 15), Kl h0 h → Wx X h H → va_S (aA (eB X)) s.heap H locs → ∀ (ls : Array Slot), lv_has ls 7 [(0, .ref x0), (1, .int x1), (2, .int x2), (3, .int x3)] → sX15_solve_54 F f h x0 x1 x2 x3 = some o → W p l e (rmA 8 219 h0 o.2) s m args below meth c H locs (hS h - hS h0) (hL h - hL h0) (MQ below (QIA X h0 o.1 o.2) args s (hS o.2 - hS h0) (hL o.2 - hL h0) (aA (eB X))) (F0 m 54 ls []) := by
  intro f
  induction f with
  | zero =>
    intro h x0 x1 x2 x3 H locs k_x0 hkl hW hZ ls hl hE
    rw [sX15_solve_54] at hE
    cases hE
  | succ f ih =>
    intro h x0 x1 x2 x3 H locs k_x0 hkl hW hZ ls hl hE
    rw [sX15_solve_54] at hE
    have mk_54 : ∀ (h : Hp) (x0 : Nat) (x1 : Int32) (x2 : Int32) (x3 : Int32), sX15_solve_54 F f h x0 x1 x2 x3 = some o → Le h o.2 := fun h x0 x1 x2 x3 hE => moX15_solve_54 _ hE
    have hk_54 : ∀ (h : Hp) (x0 : Nat) (x1 : Int32) (x2 : Int32) (x3 : Int32) (H : Heap) (locs : List Loc), hK h x0 = 15 → Kl h0 h → Wx X h H → va_S (aA (eB X)) s.heap H locs → ∀ (ls : Array Slot), lv_has ls 7 [(0, .ref x0), (1, .int x1), (2, .int x2), (3, .int x3)] → sX15_solve_54 F f h x0 x1 x2 x3 = some o → W p l e (rmA 8 219 h0 o.2) s m args below meth c H locs (hS h - hS h0) (hL h - hL h0) (MQ below (QIA X h0 o.1 o.2) args s (hS o.2 - hS h0) (hL o.2 - hL h0) (aA (eB X))) (F0 m 54 ls []) := fun h x0 x1 x2 x3 H locs k_x0 a b c ls hl hE => ih k_x0 a b c ls hl hE
    refine lv_iload_n C.1 C.2.1 dX15_solve_54 rfl (lv_at hl 3 rfl) ?_
    refine lv_iload_n C.1 C.2.1 dX15_solve_55 rfl (lv_at hl 1 rfl) ?_
    refine lv_icmp_ge (tgt := 175) C.1 C.2.1 dX15_solve_56 (by decide) (fun c_1 => ?_) (fun c_1 => ?_)
    · have hE := br_p hE c_1
      refine lv_iload_n C.1 C.2.1 dX15_solve_175 rfl (lv_at hl 1 rfl) ?_
      refine lv_iconst (v := (2 : Int32)) C.1 C.2.1 dX15_solve_176 (by decide) ?_
      refine lv_icmp_ge (tgt := 186) C.1 C.2.1 dX15_solve_177 (by decide) (fun c_2 => ?_) (fun c_2 => ?_)
      · have hE := br_p hE c_2
        refine lv_aload_n C.1 C.2.1 dX15_solve_186 rfl (lv_at hl 0 rfl) ?_
        refine lv_iconst (v := (0 : Int32)) C.1 C.2.1 dX15_solve_187 (by decide) ?_
        obtain ⟨h_3, eh_3, hE⟩ := nm_e2 hE
        refine pf_X15_751 C hW hZ k_x0 eh_3 dX15_solve_188 (fun _ _ hW km hZ => ?_)
        replace hkl := hkl.tr km.l
        refine x_wc km ?_
        replace k_x0 := km.at k_x0 (by decide)
        refine lv_aload_n C.1 C.2.1 dX15_solve_191 rfl (lv_at hl 0 rfl) ?_
        refine lv_lconst (v := (0 : Int64)) C.1 C.2.1 dX15_solve_192 (by decide) ?_
        obtain ⟨h_4, eh_4, hE⟩ := nm_e2 hE
        refine pf_X15_746 C hW hZ k_x0 eh_4 dX15_solve_193 (fun _ _ hW km hZ => ?_)
        replace hkl := hkl.tr km.l
        refine x_wc km ?_
        replace k_x0 := km.at k_x0 (by decide)
        refine lv_aload_n C.1 C.2.1 dX15_solve_196 rfl (lv_at hl 0 rfl) ?_
        refine lv_iconst (v := (0 : Int32)) C.1 C.2.1 dX15_solve_197 (by decide) ?_
        obtain ⟨h_5, eh_5, hE⟩ := nm_e2 hE
        refine pf_X15_387 C hW hZ k_x0 eh_5 dX15_solve_198 (fun _ _ hW km hZ => ?_)
        replace hkl := hkl.tr km.l
        refine x_wc km ?_
        replace k_x0 := km.at k_x0 (by decide)
        refine lv_iconst (v := (0 : Int32)) C.1 C.2.1 dX15_solve_201 (by decide) ?_
        refine lv_istore_n (lv' := [(3, .int (0 : Int32)), (0, .ref x0), (1, .int x1), (2, .int x2)]) C.1 C.2.1 dX15_solve_202 rfl hl (by decide) rfl (fun ls hl => ?_)
        exact bX15_solve_203 C F k_x0 hkl hW hZ _ (lv_sub hl [1, 2, 0] rfl) hE
      · have hE := br_n hE c_2
        refine lv_sipush (v := (-200 : Int32)) C.1 C.2.1 dX15_solve_180 (by decide) ?_
        refine lv_iload_n C.1 C.2.1 dX15_solve_183 rfl (lv_at hl 1 rfl) ?_
        refine lv_isub C.1 C.2.1 dX15_solve_184 ?_
        exact x_iretA C rfl rfl hW hZ hkl hE dX15_solve_185
    · have hE := br_n hE c_1
      refine lv_aload_n C.1 C.2.1 dX15_solve_59 rfl (lv_at hl 0 rfl) ?_
      refine lv_aload_n C.1 C.2.1 dX15_solve_60 rfl (lv_at hl 0 rfl) ?_
      obtain ⟨r_6, er_6, hE⟩ := cl_e hE
      refine gf_X15_7 C hW k_x0 er_6 dX15_solve_61 (fun k_r_6 => ?_)
      refine lv_iload_n C.1 C.2.1 dX15_solve_64 rfl (lv_at hl 3 rfl) ?_
      obtain ⟨g_7, hE⟩ := gd_e hE
      refine y_bald C hW k_r_6 g_7 dX15_solve_65 ?_
      obtain ⟨o_8, eo_8, hE⟩ := cl_e hE
      have m1 := moX15_manLetter eo_8
      have m2 := moX15_solve_69 mk_54 hE
      refine x_kI (o := o_8) (z_runV (As := [.int (hI h r_6 x3.toNatClampNeg)]) (rest := []) C (ct_X15_manLetter l X F k_x0 eo_8) cw_X15_424 hW hZ k_x0 (by decide) rfl rfl rfl hl.1 (Nat.le_of_ble_eq_true rfl) rfl dX15_solve_66 ⟨Nat.le_of_ble_eq_true rfl, Nat.le_of_ble_eq_true rfl⟩ (rm_ok0 hkl m1 m2)) hZ (fun _ _ hW km hZ => ?_)
      replace hkl := hkl.tr km.l
      refine x_wc km ?_
      replace k_x0 := km.at k_x0 (by decide)
      exact bX15_solve_69 C hk_54 mk_54 k_x0 hkl hW hZ _ (lv_sub hl [0, 1, 2, 3] rfl) hE
set_option maxRecDepth 20000 in
theorem bX15_solve_44 {p : Program} {l : Launch} {e : Env} {s : State} {m : MethodId} {args : Array Value} {below : List Frame} {meth : Method} {c : Code} {X : Ec} {h0 : Hp} {o : Int32 × Hp} {F : Nat} (C : Cx X p s m args meth c RX15 cX15_solve 7 (some .int) "solve") {h : Hp} {x0 : Nat} {x1 : Int32} {t0 : Int32} {H : Heap} {locs : List Loc} (k_x0 : hK h x0 = 15) (hkl : Kl h0 h) (hW : Wx X h H) (hZ : va_S (aA (eB X)) s.heap H locs) (ls : Array Slot) (hl : lv_has ls 7 [(0, .ref x0), (1, .int x1)]) (hE : sX15_solve_44 F h x0 x1 t0 = some o) : W p l e (rmA 8 219 h0 o.2) s m args below meth c H locs (hS h - hS h0) (hL h - hL h0) (MQ below (QIA X h0 o.1 o.2) args s (hS o.2 - hS h0) (hL o.2 - hL h0) (aA (eB X))) (F0 m 44 ls [.int t0]) := by
  refine lv_if_eq (tgt := 50) C.1 C.2.1 dX15_solve_44 (by decide) (fun c_1 => ?_) (fun c_1 => ?_)
  · have hE := br_p hE c_1
    refine lv_iconst (v := (0 : Int32)) C.1 C.2.1 dX15_solve_50 (by decide) ?_
    refine lv_istore_n (lv' := [(2, .int (0 : Int32)), (0, .ref x0), (1, .int x1)]) C.1 C.2.1 dX15_solve_51 rfl hl (by decide) rfl (fun ls hl => ?_)
    refine lv_iconst (v := (0 : Int32)) C.1 C.2.1 dX15_solve_52 (by decide) ?_
    refine lv_istore_n (lv' := [(3, .int (0 : Int32)), (2, .int (0 : Int32)), (0, .ref x0), (1, .int x1)]) C.1 C.2.1 dX15_solve_53 rfl hl (by decide) rfl (fun ls hl => ?_)
    exact bX15_solve_54 C F k_x0 hkl hW hZ _ (lv_sub hl [2, 3, 1, 0] rfl) hE
  · have hE := br_n hE c_1
    exact bX15_solve_47 C hkl hW hZ _ (lv_sub hl [] rfl) hE
set_option maxRecDepth 20000 in
theorem ct_X15_solve (l : Launch) (X : Ec) (F : Nat) {h : Hp} {x0 : Nat} {o : Int32 × Hp} (k_x0 : hK h x0 = 15) (hE : sX15_solve F h x0 = some o) : MetIA l yX15_solve cX15_solve 7 (some .int) 8 219 X [.ref x0] h o := by
  refine x_metA (oh := o.2) (by decide) (Nat.le_of_ble_eq_true rfl) ?_
  intro p e s m below meth c ls C hl hW hZ
  have hl : lv_has ls 7 [(0, .ref x0)] := hl
  have hkl : Kl h h := Kl.rf h
  refine lv_aload_n C.1 C.2.1 dX15_solve_0 rfl (lv_at hl 0 rfl) ?_
  refine gf_X15_1 C hW k_x0 dX15_solve_1 ?_
  obtain ⟨v_1, ev_1, hE⟩ := nm_e2 hE
  refine x_nmI ev_1 ?_
  refine lv_istore_n (lv' := [(1, .int v_1), (0, .ref x0)]) C.1 C.2.1 dX15_solve_4 rfl hl (by decide) rfl (fun ls hl => ?_)
  refine lv_aload_n C.1 C.2.1 dX15_solve_5 rfl (lv_at hl 1 rfl) ?_
  refine lv_iconst (v := (0 : Int32)) C.1 C.2.1 dX15_solve_6 (by decide) ?_
  obtain ⟨h_2, eh_2, hE⟩ := nm_e2 hE
  refine pf_X15_1 C hW hZ k_x0 eh_2 dX15_solve_7 (fun _ _ hW km hZ => ?_)
  replace hkl := hkl.tr km.l
  refine x_wc km ?_
  replace k_x0 := km.at k_x0 (by decide)
  refine lv_aload_n C.1 C.2.1 dX15_solve_10 rfl (lv_at hl 1 rfl) ?_
  obtain ⟨r_3, er_3, hE⟩ := cl_e hE
  refine gf_X15_252 C hW k_x0 er_3 dX15_solve_11 (fun k_r_3 => ?_)
  refine gf_X15_126 C hW k_r_3 dX15_solve_14 ?_
  refine lv_if_ne (tgt := 47) C.1 C.2.1 dX15_solve_17 (by decide) (fun c_4 => ?_) (fun c_4 => ?_)
  · have hE := br_n hE c_4
    exact bX15_solve_47 C hkl hW hZ _ (lv_sub hl [] rfl) hE
  · have hE := br_p hE c_4
    refine lv_aload_n C.1 C.2.1 dX15_solve_20 rfl (lv_at hl 1 rfl) ?_
    obtain ⟨r_5, er_5, hE⟩ := cl_e hE
    refine gf_X15_252 C hW k_x0 er_5 dX15_solve_21 (fun k_r_5 => ?_)
    refine gf_X15_142 C hW k_r_5 dX15_solve_24 ?_
    refine lv_if_ne (tgt := 47) C.1 C.2.1 dX15_solve_27 (by decide) (fun c_6 => ?_) (fun c_6 => ?_)
    · have hE := br_n hE c_6
      exact bX15_solve_47 C hkl hW hZ _ (lv_sub hl [] rfl) hE
    · have hE := br_p hE c_6
      refine lv_aload_n C.1 C.2.1 dX15_solve_30 rfl (lv_at hl 1 rfl) ?_
      obtain ⟨r_7, er_7, hE⟩ := cl_e hE
      refine gf_X15_252 C hW k_x0 er_7 dX15_solve_31 (fun k_r_7 => ?_)
      refine gf_X15_233 C hW k_r_7 dX15_solve_34 ?_
      refine lv_if_gt (tgt := 47) C.1 C.2.1 dX15_solve_37 (by decide) (fun c_8 => ?_) (fun c_8 => ?_)
      · have hE := br_p hE c_8
        exact bX15_solve_47 C hkl hW hZ _ (lv_sub hl [] rfl) hE
      · have hE := br_n hE c_8
        refine lv_aload_n C.1 C.2.1 dX15_solve_40 rfl (lv_at hl 1 rfl) ?_
        obtain ⟨o_9, eo_9, hE⟩ := cl_e hE
        have m1 := moX15_hasCatches eo_9
        have m2 := moX15_solve_44 hE
        refine x_kI (o := o_9) (z_runV (As := []) (rest := []) C (ct_X15_hasCatches l X F k_x0 eo_9) cw_X15_807 hW hZ k_x0 (by decide) rfl rfl rfl hl.1 (Nat.le_of_ble_eq_true rfl) rfl dX15_solve_41 ⟨Nat.le_of_ble_eq_true rfl, Nat.le_of_ble_eq_true rfl⟩ (rm_ok0 hkl m1 m2)) hZ (fun _ _ hW km hZ => ?_)
        replace hkl := hkl.tr km.l
        refine x_wc km ?_
        replace k_x0 := km.at k_x0 (by decide)
        exact bX15_solve_44 C k_x0 hkl hW hZ _ (lv_sub hl [1, 0] rfl) hE
