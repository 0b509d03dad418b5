set_option maxRecDepth 100000 in
theorem ms_197 : Cond.selects RX15 yX15_findsRoom yX15_findsRoom ∈ W0 := w0_in (List.mem_append_left _ (List.mem_of_getElem? (i := 197) rfl)) rfl
set_option maxRecDepth 100000 in
theorem ms_196 : Cond.selects RX15 yX15_leadsTo yX15_leadsTo ∈ W0 := w0_in (List.mem_append_left _ (List.mem_of_getElem? (i := 196) rfl)) rfl
set_option maxRecDepth 100000 in
theorem ms_195 : Cond.selects RX15 yX15_mayCome yX15_mayCome ∈ W0 := w0_in (List.mem_append_left _ (List.mem_of_getElem? (i := 195) rfl)) rfl
set_option maxRecDepth 100000 in
theorem m_2719 : Cond.methodLink RX15 717 yX15_mayCome ∈ W0 := w0_in (List.mem_append_right _ (List.mem_of_getElem? (i := 2719) rfl)) rfl
set_option maxRecDepth 100000 in
theorem m_2721 : Cond.instanceMethod yX15_mayCome ∈ W0 := w0_in (List.mem_append_right _ (List.mem_of_getElem? (i := 2721) rfl)) rfl
set_option maxRecDepth 100000 in
theorem m_2722 : Cond.code yX15_mayCome cX15_mayCome 3 (some .boolean) ∈ W0 := w0_in (List.mem_append_right _ (List.mem_of_getElem? (i := 2722) rfl)) rfl
set_option maxRecDepth 100000 in
theorem m_2723 : Cond.methodLink RX15 720 yX15_leadsTo ∈ W0 := w0_in (List.mem_append_right _ (List.mem_of_getElem? (i := 2723) rfl)) rfl
set_option maxRecDepth 100000 in
theorem m_2725 : Cond.instanceMethod yX15_leadsTo ∈ W0 := w0_in (List.mem_append_right _ (List.mem_of_getElem? (i := 2725) rfl)) rfl
set_option maxRecDepth 100000 in
theorem m_2726 : Cond.code yX15_leadsTo cX15_leadsTo 5 (some .boolean) ∈ W0 := w0_in (List.mem_append_right _ (List.mem_of_getElem? (i := 2726) rfl)) rfl
set_option maxRecDepth 100000 in
theorem m_2727 : Cond.methodLink RX15 723 yX15_findsRoom ∈ W0 := w0_in (List.mem_append_right _ (List.mem_of_getElem? (i := 2727) rfl)) rfl
set_option maxRecDepth 100000 in
theorem m_2729 : Cond.instanceMethod yX15_findsRoom ∈ W0 := w0_in (List.mem_append_right _ (List.mem_of_getElem? (i := 2729) rfl)) rfl
set_option maxRecDepth 100000 in
theorem m_2730 : Cond.code yX15_findsRoom cX15_findsRoom 7 (some .boolean) ∈ W0 := w0_in (List.mem_append_right _ (List.mem_of_getElem? (i := 2730) rfl)) rfl
theorem cw_X15_723 : cwd RX15 723 yX15_findsRoom cX15_findsRoom 7 (some .boolean) false 0 := ⟨m_2730, m_2727, m_19, ⟨m_2729, ms_197⟩, by decide, by decide, by decide +kernel⟩
theorem cw_X15_720 : cwd RX15 720 yX15_leadsTo cX15_leadsTo 5 (some .boolean) false 1 := ⟨m_2726, m_2723, m_19, ⟨m_2725, ms_196⟩, by decide, by decide, by decide +kernel⟩
theorem cw_X15_717 : cwd RX15 717 yX15_mayCome cX15_mayCome 3 (some .boolean) false 2 := ⟨m_2722, m_2719, m_19, ⟨m_2721, ms_195⟩, by decide, by decide, by decide +kernel⟩
theorem dX15_guesses_0 : decode cX15_guesses 0 = .ok (.iconst 0, 1) := by decide +kernel
theorem dX15_guesses_1 : decode cX15_guesses 1 = .ok (.istore 5, 2) := by decide +kernel
theorem dX15_guesses_3 : decode cX15_guesses 3 = .ok (.iload 5, 2) := by decide +kernel
theorem dX15_guesses_5 : decode cX15_guesses 5 = .ok (.iconst 1, 1) := by decide +kernel
theorem dX15_guesses_6 : decode cX15_guesses 6 = .ok (.aload_n 0, 1) := by decide +kernel
theorem dX15_guesses_7 : decode cX15_guesses 7 = .ok (.getfield 252, 3) := by decide +kernel
theorem dX15_guesses_10 : decode cX15_guesses 10 = .ok (.getfield 169, 3) := by decide +kernel
theorem dX15_guesses_13 : decode cX15_guesses 13 = .ok (.iadd, 1) := by decide +kernel
theorem dX15_guesses_14 : decode cX15_guesses 14 = .ok (.if_icmp .ge 129, 3) := by decide +kernel
theorem dX15_guesses_17 : decode cX15_guesses 17 = .ok (.aload_n 0, 1) := by decide +kernel
theorem dX15_guesses_18 : decode cX15_guesses 18 = .ok (.getfield 330, 3) := by decide +kernel
theorem dX15_guesses_21 : decode cX15_guesses 21 = .ok (.aload_n 1, 1) := by decide +kernel
theorem dX15_guesses_22 : decode cX15_guesses 22 = .ok (.invokevirtual 405, 3) := by decide +kernel
theorem dX15_guesses_25 : decode cX15_guesses 25 = .ok (.aload_n 0, 1) := by decide +kernel
theorem dX15_guesses_26 : decode cX15_guesses 26 = .ok (.getfield 330, 3) := by decide +kernel
theorem dX15_guesses_29 : decode cX15_guesses 29 = .ok (.lconst 0, 1) := by decide +kernel
theorem dX15_guesses_30 : decode cX15_guesses 30 = .ok (.putfield 436, 3) := by decide +kernel
theorem dX15_guesses_33 : decode cX15_guesses 33 = .ok (.aload_n 0, 1) := by decide +kernel
theorem dX15_guesses_34 : decode cX15_guesses 34 = .ok (.getfield 330, 3) := by decide +kernel
theorem dX15_guesses_37 : decode cX15_guesses 37 = .ok (.iconst 0, 1) := by decide +kernel
theorem dX15_guesses_38 : decode cX15_guesses 38 = .ok (.putfield 441, 3) := by decide +kernel
theorem dX15_guesses_41 : decode cX15_guesses 41 = .ok (.aload_n 0, 1) := by decide +kernel
theorem dX15_guesses_42 : decode cX15_guesses 42 = .ok (.getfield 330, 3) := by decide +kernel
theorem dX15_guesses_45 : decode cX15_guesses 45 = .ok (.iconst 0, 1) := by decide +kernel
theorem dX15_guesses_46 : decode cX15_guesses 46 = .ok (.putfield 449, 3) := by decide +kernel
theorem dX15_guesses_49 : decode cX15_guesses 49 = .ok (.aload_n 0, 1) := by decide +kernel
theorem dX15_guesses_50 : decode cX15_guesses 50 = .ok (.getfield 330, 3) := by decide +kernel
theorem dX15_guesses_53 : decode cX15_guesses 53 = .ok (.iconst 1, 1) := by decide +kernel
theorem dX15_guesses_54 : decode cX15_guesses 54 = .ok (.aload_n 1, 1) := by decide +kernel
theorem dX15_guesses_55 : decode cX15_guesses 55 = .ok (.getfield 452, 3) := by decide +kernel
theorem dX15_guesses_58 : decode cX15_guesses 58 = .ok (.isub, 1) := by decide +kernel
theorem dX15_guesses_59 : decode cX15_guesses 59 = .ok (.putfield 452, 3) := by decide +kernel
theorem dX15_guesses_62 : decode cX15_guesses 62 = .ok (.aload_n 0, 1) := by decide +kernel
theorem dX15_guesses_63 : decode cX15_guesses 63 = .ok (.getfield 330, 3) := by decide +kernel
theorem dX15_guesses_66 : decode cX15_guesses 66 = .ok (.getfield 396, 3) := by decide +kernel
theorem dX15_guesses_69 : decode cX15_guesses 69 = .ok (.iload_n 2, 1) := by decide +kernel
theorem dX15_guesses_70 : decode cX15_guesses 70 = .ok (.iload 5, 2) := by decide +kernel
theorem dX15_guesses_72 : decode cX15_guesses 72 = .ok (.ifCond .ne 7, 3) := by decide +kernel
theorem dX15_guesses_75 : decode cX15_guesses 75 = .ok (.iconst 0, 1) := by decide +kernel
theorem dX15_guesses_76 : decode cX15_guesses 76 = .ok (.goto 14, 3) := by decide +kernel
theorem dX15_guesses_79 : decode cX15_guesses 79 = .ok (.iload 5, 2) := by decide +kernel
theorem dX15_guesses_81 : decode cX15_guesses 81 = .ok (.iconst 1, 1) := by decide +kernel
theorem dX15_guesses_82 : decode cX15_guesses 82 = .ok (.isub, 1) := by decide +kernel
theorem dX15_guesses_83 : decode cX15_guesses 83 = .ok (.aload_n 1, 1) := by decide +kernel
theorem dX15_guesses_84 : decode cX15_guesses 84 = .ok (.getfield 452, 3) := by decide +kernel
theorem dX15_guesses_87 : decode cX15_guesses 87 = .ok (.invokestatic 398, 3) := by decide +kernel
theorem dX15_guesses_90 : decode cX15_guesses 90 = .ok (.iastore, 1) := by decide +kernel
theorem dX15_guesses_91 : decode cX15_guesses 91 = .ok (.aload_n 0, 1) := by decide +kernel
theorem dX15_guesses_92 : decode cX15_guesses 92 = .ok (.getfield 330, 3) := by decide +kernel
theorem dX15_guesses_95 : decode cX15_guesses 95 = .ok (.getfield 396, 3) := by decide +kernel
theorem dX15_guesses_98 : decode cX15_guesses 98 = .ok (.iload_n 3, 1) := by decide +kernel
theorem dX15_guesses_99 : decode cX15_guesses 99 = .ok (.iload 4, 2) := by decide +kernel
theorem dX15_guesses_101 : decode cX15_guesses 101 = .ok (.iconst 1, 1) := by decide +kernel
theorem dX15_guesses_102 : decode cX15_guesses 102 = .ok (.aload_n 1, 1) := by decide +kernel
theorem dX15_guesses_103 : decode cX15_guesses 103 = .ok (.getfield 452, 3) := by decide +kernel
theorem dX15_guesses_106 : decode cX15_guesses 106 = .ok (.isub, 1) := by decide +kernel
theorem dX15_guesses_107 : decode cX15_guesses 107 = .ok (.invokestatic 398, 3) := by decide +kernel
theorem dX15_guesses_110 : decode cX15_guesses 110 = .ok (.iastore, 1) := by decide +kernel
theorem dX15_guesses_111 : decode cX15_guesses 111 = .ok (.aload_n 0, 1) := by decide +kernel
theorem dX15_guesses_112 : decode cX15_guesses 112 = .ok (.iload_n 3, 1) := by decide +kernel
theorem dX15_guesses_113 : decode cX15_guesses 113 = .ok (.iload_n 2, 1) := by decide +kernel
theorem dX15_guesses_114 : decode cX15_guesses 114 = .ok (.invokevirtual 717, 3) := by decide +kernel
theorem dX15_guesses_117 : decode cX15_guesses 117 = .ok (.ifCond .eq 20, 3) := by decide +kernel
theorem dX15_guesses_120 : decode cX15_guesses 120 = .ok (.aload_n 0, 1) := by decide +kernel
theorem dX15_guesses_121 : decode cX15_guesses 121 = .ok (.aload_n 1, 1) := by decide +kernel
theorem dX15_guesses_122 : decode cX15_guesses 122 = .ok (.invokevirtual 720, 3) := by decide +kernel
theorem dX15_guesses_125 : decode cX15_guesses 125 = .ok (.ifCond .eq 12, 3) := by decide +kernel
theorem dX15_guesses_128 : decode cX15_guesses 128 = .ok (.aload_n 0, 1) := by decide +kernel
theorem dX15_guesses_129 : decode cX15_guesses 129 = .ok (.invokevirtual 723, 3) := by decide +kernel
theorem dX15_guesses_132 : decode cX15_guesses 132 = .ok (.ifCond .ne 5, 3) := by decide +kernel
theorem dX15_guesses_135 : decode cX15_guesses 135 = .ok (.iconst 0, 1) := by decide +kernel
theorem dX15_guesses_136 : decode cX15_guesses 136 = .ok (.ireturn, 1) := by decide +kernel
theorem dX15_guesses_137 : decode cX15_guesses 137 = .ok (.iinc 5 1, 3) := by decide +kernel
theorem dX15_guesses_140 : decode cX15_guesses 140 = .ok (.goto (-137), 3) := by decide +kernel
theorem dX15_guesses_143 : decode cX15_guesses 143 = .ok (.iconst 1, 1) := by decide +kernel
theorem dX15_guesses_144 : decode cX15_guesses 144 = .ok (.ireturn, 1) := by decide +kernel
set_option maxRecDepth 20000 in
theorem moX15_guesses_137 {o : Int32 × Hp} {k_3 : Hp → Nat → Nat → Int32 → Int32 → Int32 → Int32 → Option (Int32 × Hp)} {F : Nat} (mk_3 : ∀ (h : Hp) (x0 : Nat) (x1 : Nat) (x2 : Int32) (x3 : Int32) (x4 : Int32) (x5 : Int32), k_3 h x0 x1 x2 x3 x4 x5 = some o → Le h o.2) {h : Hp} {x0 : Nat} {x1 : Nat} {x2 : Int32} {x3 : Int32} {x4 : Int32} {x5 : Int32} (hE : sX15_guesses_137 F k_3 h x0 x1 x2 x3 x4 x5 = some o) : Le h o.2 := by
  obtain ⟨v_1, ev_1, hE⟩ := nm_e2 hE
  exact mk_3 _ _ _ _ _ _ _ hE
set_option maxRecDepth 20000 in
theorem moX15_guesses_132 {o : Int32 × Hp} {k_3 : Hp → Nat → Nat → Int32 → Int32 → Int32 → Int32 → Option (Int32 × Hp)} {F : Nat} (mk_3 : ∀ (h : Hp) (x0 : Nat) (x1 : Nat) (x2 : Int32) (x3 : Int32) (x4 : Int32) (x5 : Int32), k_3 h x0 x1 x2 x3 x4 x5 = some o → Le h o.2) {h : Hp} {x0 : Nat} {x1 : Nat} {x2 : Int32} {x3 : Int32} {x4 : Int32} {x5 : Int32} {t0 : Int32} (hE : sX15_guesses_132 F k_3 h x0 x1 x2 x3 x4 x5 t0 = some o) : Le h o.2 := by
  rcases br_e hE with ⟨_, hE⟩ | ⟨_, hE⟩
  · exact le_some2 hE
  · exact moX15_guesses_137 mk_3 hE
set_option maxRecDepth 20000 in
theorem moX15_guesses_125 {o : Int32 × Hp} {k_3 : Hp → Nat → Nat → Int32 → Int32 → Int32 → Int32 → Option (Int32 × Hp)} {F : Nat} (mk_3 : ∀ (h : Hp) (x0 : Nat) (x1 : Nat) (x2 : Int32) (x3 : Int32) (x4 : Int32) (x5 : Int32), k_3 h x0 x1 x2 x3 x4 x5 = some o → Le h o.2) {h : Hp} {x0 : Nat} {x1 : Nat} {x2 : Int32} {x3 : Int32} {x4 : Int32} {x5 : Int32} {t0 : Int32} (hE : sX15_guesses_125 F k_3 h x0 x1 x2 x3 x4 x5 t0 = some o) : Le h o.2 := by
  rcases br_e hE with ⟨_, hE⟩ | ⟨_, hE⟩
  · exact moX15_guesses_137 mk_3 hE
  · obtain ⟨o_2, eo_2, hE⟩ := cl_e hE
    refine (moX15_findsRoom eo_2).tr ?_
    exact moX15_guesses_132 mk_3 hE
set_option maxRecDepth 20000 in
theorem moX15_guesses_117 {o : Int32 × Hp} {k_3 : Hp → Nat → Nat → Int32 → Int32 → Int32 → Int32 → Option (Int32 × Hp)} {F : Nat} (mk_3 : ∀ (h : Hp) (x0 : Nat) (x1 : Nat) (x2 : Int32) (x3 : Int32) (x4 : Int32) (x5 : Int32), k_3 h x0 x1 x2 x3 x4 x5 = some o → Le h o.2) {h : Hp} {x0 : Nat} {x1 : Nat} {x2 : Int32} {x3 : Int32} {x4 : Int32} {x5 : Int32} {t0 : Int32} (hE : sX15_guesses_117 F k_3 h x0 x1 x2 x3 x4 x5 t0 = some o) : Le h o.2 := by
  rcases br_e hE with ⟨_, hE⟩ | ⟨_, hE⟩
  · exact moX15_guesses_137 mk_3 hE
  · obtain ⟨o_2, eo_2, hE⟩ := cl_e hE
    refine (moX15_leadsTo eo_2).tr ?_
    exact moX15_guesses_125 mk_3 hE
set_option maxRecDepth 20000 in
theorem moX15_guesses_110 {o : Int32 × Hp} {k_3 : Hp → Nat → Nat → Int32 → Int32 → Int32 → Int32 → Option (Int32 × Hp)} {F : Nat} (mk_3 : ∀ (h : Hp) (x0 : Nat) (x1 : Nat) (x2 : Int32) (x3 : Int32) (x4 : Int32) (x5 : Int32), k_3 h x0 x1 x2 x3 x4 x5 = some o → Le h o.2) {h : Hp} {x0 : Nat} {x1 : Nat} {x2 : Int32} {x3 : Int32} {x4 : Int32} {x5 : Int32} {t0 : Int32} {t1 : Int32} {t2 : Nat} (hE : sX15_guesses_110 F k_3 h x0 x1 x2 x3 x4 x5 t0 t1 t2 = some o) : Le h o.2 := by
  obtain ⟨g_1, hE⟩ := gd_e hE
  obtain ⟨h_2, eh_2, hE⟩ := nm_e2 hE
  refine (le_I eh_2).tr ?_
  obtain ⟨o_3, eo_3, hE⟩ := cl_e hE
  refine (moX15_mayCome eo_3).tr ?_
  exact moX15_guesses_117 mk_3 hE
set_option maxRecDepth 20000 in
theorem moX15_guesses_90 {o : Int32 × Hp} {k_3 : Hp → Nat → Nat → Int32 → Int32 → Int32 → Int32 → Option (Int32 × Hp)} {F : Nat} (mk_3 : ∀ (h : Hp) (x0 : Nat) (x1 : Nat) (x2 : Int32) (x3 : Int32) (x4 : Int32) (x5 : Int32), k_3 h x0 x1 x2 x3 x4 x5 = some o → Le h o.2) {h : Hp} {x0 : Nat} {x1 : Nat} {x2 : Int32} {x3 : Int32} {x4 : Int32} {x5 : Int32} {t0 : Int32} {t1 : Int32} {t2 : Nat} (hE : sX15_guesses_90 F k_3 h x0 x1 x2 x3 x4 x5 t0 t1 t2 = some o) : Le h o.2 := by
  obtain ⟨g_1, hE⟩ := gd_e hE
  obtain ⟨h_2, eh_2, hE⟩ := nm_e2 hE
  refine (le_I eh_2).tr ?_
  obtain ⟨r_3, er_3, hE⟩ := cl_e hE
  obtain ⟨r_4, er_4, hE⟩ := cl_e hE
  obtain ⟨o_5, eo_5, hE⟩ := cl_e hE
  refine (moX15_valueOf eo_5).tr ?_
  exact moX15_guesses_110 mk_3 hE
set_option maxRecDepth 20000 in
theorem moX15_guesses_25 {o : Int32 × Hp} {k_3 : Hp → Nat → Nat → Int32 → Int32 → Int32 → Int32 → Option (Int32 × Hp)} {F : Nat} (mk_3 : ∀ (h : Hp) (x0 : Nat) (x1 : Nat) (x2 : Int32) (x3 : Int32) (x4 : Int32) (x5 : Int32), k_3 h x0 x1 x2 x3 x4 x5 = some o → Le h o.2) {h : Hp} {x0 : Nat} {x1 : Nat} {x2 : Int32} {x3 : Int32} {x4 : Int32} {x5 : Int32} (hE : sX15_guesses_25 F k_3 h x0 x1 x2 x3 x4 x5 = some o) : Le h o.2 := by
  obtain ⟨r_1, er_1, hE⟩ := cl_e hE
  obtain ⟨h_2, eh_2, hE⟩ := nm_e2 hE
  refine (le_J eh_2).tr ?_
  obtain ⟨r_3, er_3, hE⟩ := cl_e hE
  obtain ⟨h_4, eh_4, hE⟩ := nm_e2 hE
  refine (le_I eh_4).tr ?_
  obtain ⟨r_5, er_5, hE⟩ := cl_e hE
  obtain ⟨h_6, eh_6, hE⟩ := nm_e2 hE
  refine (le_I eh_6).tr ?_
  obtain ⟨r_7, er_7, hE⟩ := cl_e hE
  obtain ⟨h_8, eh_8, hE⟩ := nm_e2 hE
  refine (le_I eh_8).tr ?_
  obtain ⟨r_9, er_9, hE⟩ := cl_e hE
  obtain ⟨r_10, er_10, hE⟩ := cl_e hE
  rcases br_e hE with ⟨_, hE⟩ | ⟨_, hE⟩
  · exact moX15_guesses_90 mk_3 hE
  · obtain ⟨o_12, eo_12, hE⟩ := cl_e hE
    refine (moX15_valueOf eo_12).tr ?_
    exact moX15_guesses_90 mk_3 hE
set_option maxRecDepth 20000 in
theorem moX15_guesses_3 {o : Int32 × Hp} {F : Nat} : ∀ (f : Nat) {h : Hp} {x0 : Nat} {x1 : Nat} {x2 : Int32} {x3 : Int32} {x4 : Int32} {x5 : Int32}, sX15_guesses_3 F f h x0 x1 x2 x3 x4 x5 = some o → Le h o.2 := by
  intro f
  induction f with
  | zero =>
    intro h x0 x1 x2 x3 x4 x5 hE
    rw [sX15_guesses_3] at hE
    cases hE
  | succ f ih =>
    intro h x0 x1 x2 x3 x4 x5 hE
    rw [sX15_guesses_3] at hE
    have mk_3 : ∀ (h : Hp) (x0 : Nat) (x1 : Nat) (x2 : Int32) (x3 : Int32) (x4 : Int32) (x5 : Int32), sX15_guesses_3 F f h x0 x1 x2 x3 x4 x5 = some o → Le h o.2 := fun h x0 x1 x2 x3 x4 x5 hE => ih hE
    obtain ⟨r_1, er_1, hE⟩ := cl_e hE
    rcases br_e hE with ⟨_, hE⟩ | ⟨_, hE⟩
    · exact le_some2 hE
    · obtain ⟨r_3, er_3, hE⟩ := cl_e hE
      obtain ⟨o_4, eo_4, hE⟩ := cl_e hE
      refine (moX12_copy eo_4).tr ?_
      exact moX15_guesses_25 mk_3 hE
set_option maxRecDepth 20000 in
theorem moX15_guesses {o : Int32 × Hp} {F : Nat} {h : Hp} {x0 : Nat} {x1 : Nat} {x2 : Int32} {x3 : Int32} {x4 : Int32} (hE : sX15_guesses F h x0 x1 x2 x3 x4 = some o) : Le h o.2 := by
  exact moX15_guesses_3 _ hE
set_option maxRecDepth 20000 in
theorem bX15_guesses_137 {p : Program} {l : Launch} {e : Env} {s : State} {m : MethodId} {args : Array Value} {below : List Frame} {meth : Method} {c : Code} {X : Ec} {h0 : Hp} {o : Int32 × Hp} {k_3 : Hp → Nat → Nat → Int32 → Int32 → Int32 → Int32 → Option (Int32 × Hp)} {F : Nat} (C : Cx X p s m args meth c RX15 cX15_guesses 6 (some .boolean) "guesses") (hk_3 : ∀ (h : Hp) (x0 : Nat) (x1 : Nat) (x2 : Int32) (x3 : Int32) (x4 : Int32) (x5 : Int32) (H : Heap) (locs : List Loc), hK h x0 = 15 → hK h x1 = 12 → Kl h0 h → Wx X h H → va_S (aA (eB X)) s.heap H locs → ∀ (ls : Array Slot), lv_has ls 6 [(0, .ref x0), (1, .ref x1), (2, .int x2), (3, .int x3), (4, .int x4), (5, .int x5)] → k_3 h x0 x1 x2 x3 x4 x5 = some o → W p l e (rmA 18 373 h0 o.2) s m args below meth c H locs (hS h - hS h0) (hL h - hL h0) (MQ below (QIA X h0 o.1 o.2) args s (hS o.2 - hS h0) (hL o.2 - hL h0) (aA (eB X))) (F0 m 3 ls [])) (mk_3 : ∀ (h : Hp) (x0 : Nat) (x1 : Nat) (x2 : Int32) (x3 : Int32) (x4 : Int32) (x5 : Int32), k_3 h x0 x1 x2 x3 x4 x5 = some o → Le h o.2) {h : Hp} {x0 : Nat} {x1 : Nat} {x2 : Int32} {x3 : Int32} {x4 : Int32} {x5 : Int32} {H : Heap} {locs : List Loc} (k_x0 : hK h x0 = 15) (k_x1 : hK h x1 = 12) (hkl : Kl h0 h) (hW : Wx X h H) (hZ : va_S (aA (eB X)) s.heap H locs) (ls : Array Slot) (hl : lv_has ls 6 [(0, .ref x0), (1, .ref x1), (2, .int x2), (3, .int x3), (4, .int x4), (5, .int x5)]) (hE : sX15_guesses_137 F k_3 h x0 x1 x2 x3 x4 x5 = some o) : W p l e (rmA 18 373 h0 o.2) s m args below meth c H locs (hS h - hS h0) (hL h - hL h0) (MQ below (QIA X h0 o.1 o.2) args s (hS o.2 - hS h0) (hL o.2 - hL h0) (aA (eB X))) (F0 m 137 ls []) := by
  obtain ⟨v_1, ev_1, hE⟩ := nm_e2 hE
  refine lv_iinc (v := v_1) (lv' := [(5, .int v_1), (0, .ref x0), (1, .ref x1), (2, .int x2), (3, .int x3), (4, .int x4)]) C.1 C.2.1 dX15_guesses_137 hl (k := 5) rfl (by rw [ev_1]; rfl) (by decide) rfl (fun ls hl => ?_)
  refine lv_goto (tgt := 3) C.1 C.2.1 dX15_guesses_140 (by decide) ?_
  exact hk_3 _ _ _ _ _ _ _ _ _ k_x0 k_x1 hkl hW hZ _ (lv_sub hl [1, 2, 3, 4, 5, 0] rfl) hE
set_option maxRecDepth 20000 in
theorem bX15_guesses_132 {p : Program} {l : Launch} {e : Env} {s : State} {m : MethodId} {args : Array Value} {below : List Frame} {meth : Method} {c : Code} {X : Ec} {h0 : Hp} {o : Int32 × Hp} {k_3 : Hp → Nat → Nat → Int32 → Int32 → Int32 → Int32 → Option (Int32 × Hp)} {F : Nat} (C : Cx X p s m args meth c RX15 cX15_guesses 6 (some .boolean) "guesses") (hk_3 : ∀ (h : Hp) (x0 : Nat) (x1 : Nat) (x2 : Int32) (x3 : Int32) (x4 : Int32) (x5 : Int32) (H : Heap) (locs : List Loc), hK h x0 = 15 → hK h x1 = 12 → Kl h0 h → Wx X h H → va_S (aA (eB X)) s.heap H locs → ∀ (ls : Array Slot), lv_has ls 6 [(0, .ref x0), (1, .ref x1), (2, .int x2), (3, .int x3), (4, .int x4), (5, .int x5)] → k_3 h x0 x1 x2 x3 x4 x5 = some o → W p l e (rmA 18 373 h0 o.2) s m args below meth c H locs (hS h - hS h0) (hL h - hL h0) (MQ below (QIA X h0 o.1 o.2) args s (hS o.2 - hS h0) (hL o.2 - hL h0) (aA (eB X))) (F0 m 3 ls [])) (mk_3 : ∀ (h : Hp) (x0 : Nat) (x1 : Nat) (x2 : Int32) (x3 : Int32) (x4 : Int32) (x5 : Int32), k_3 h x0 x1 x2 x3 x4 x5 = some o → Le h o.2) {h : Hp} {x0 : Nat} {x1 : Nat} {x2 : Int32} {x3 : Int32} {x4 : Int32} {x5 : Int32} {t0 : Int32} {H : Heap} {locs : List Loc} (k_x0 : hK h x0 = 15) (k_x1 : hK h x1 = 12) (hkl : Kl h0 h) (hW : Wx X h H) (hZ : va_S (aA (eB X)) s.heap H locs) (ls : Array Slot) (hl : lv_has ls 6 [(0, .ref x0), (1, .ref x1), (2, .int x2), (3, .int x3), (4, .int x4), (5, .int x5)]) (hE : sX15_guesses_132 F k_3 h x0 x1 x2 x3 x4 x5 t0 = some o) : W p l e (rmA 18 373 h0 o.2) s m args below meth c H locs (hS h - hS h0) (hL h - hL h0) (MQ below (QIA X h0 o.1 o.2) args s (hS o.2 - hS h0) (hL o.2 - hL h0) (aA (eB X))) (F0 m 132 ls [.int t0]) := by
  refine lv_if_ne (tgt := 137) C.1 C.2.1 dX15_guesses_132 (by decide) (fun c_1 => ?_) (fun c_1 => ?_)
  · have hE := br_n hE c_1
    exact bX15_guesses_137 C hk_3 mk_3 k_x0 k_x1 hkl hW hZ _ (lv_sub hl [0, 1, 2, 3, 4, 5] rfl) hE
  · have hE := br_p hE c_1
    refine lv_iconst (v := (0 : Int32)) C.1 C.2.1 dX15_guesses_135 (by decide) ?_
    exact x_iretA C rfl (by decide) hW hZ hkl hE dX15_guesses_136
set_option maxRecDepth 20000 in
theorem bX15_guesses_125 {p : Program} {l : Launch} {e : Env} {s : State} {m : MethodId} {args : Array Value} {below : List Frame} {meth : Method} {c : Code} {X : Ec} {h0 : Hp} {o : Int32 × Hp} {k_3 : Hp → Nat → Nat → Int32 → Int32 → Int32 → Int32 → Option (Int32 × Hp)} {F : Nat} (C : Cx X p s m args meth c RX15 cX15_guesses 6 (some .boolean) "guesses") (hk_3 : ∀ (h : Hp) (x0 : Nat) (x1 : Nat) (x2 : Int32) (x3 : Int32) (x4 : Int32) (x5 : Int32) (H : Heap) (locs : List Loc), hK h x0 = 15 → hK h x1 = 12 → Kl h0 h → Wx X h H → va_S (aA (eB X)) s.heap H locs → ∀ (ls : Array Slot), lv_has ls 6 [(0, .ref x0), (1, .ref x1), (2, .int x2), (3, .int x3), (4, .int x4), (5, .int x5)] → k_3 h x0 x1 x2 x3 x4 x5 = some o → W p l e (rmA 18 373 h0 o.2) s m args below meth c H locs (hS h - hS h0) (hL h - hL h0) (MQ below (QIA X h0 o.1 o.2) args s (hS o.2 - hS h0) (hL o.2 - hL h0) (aA (eB X))) (F0 m 3 ls [])) (mk_3 : ∀ (h : Hp) (x0 : Nat) (x1 : Nat) (x2 : Int32) (x3 : Int32) (x4 : Int32) (x5 : Int32), k_3 h x0 x1 x2 x3 x4 x5 = some o → Le h o.2) {h : Hp} {x0 : Nat} {x1 : Nat} {x2 : Int32} {x3 : Int32} {x4 : Int32} {x5 : Int32} {t0 : Int32} {H : Heap} {locs : List Loc} (k_x0 : hK h x0 = 15) (k_x1 : hK h x1 = 12) (hkl : Kl h0 h) (hW : Wx X h H) (hZ : va_S (aA (eB X)) s.heap H locs) (ls : Array Slot) (hl : lv_has ls 6 [(0, .ref x0), (1, .ref x1), (2, .int x2), (3, .int x3), (4, .int x4), (5, .int x5)]) (hE : sX15_guesses_125 F k_3 h x0 x1 x2 x3 x4 x5 t0 = some o) : W p l e (rmA 18 373 h0 o.2) s m args below meth c H locs (hS h - hS h0) (hL h - hL h0) (MQ below (QIA X h0 o.1 o.2) args s (hS o.2 - hS h0) (hL o.2 - hL h0) (aA (eB X))) (F0 m 125 ls [.int t0]) := by
  refine lv_if_eq (tgt := 137) C.1 C.2.1 dX15_guesses_125 (by decide) (fun c_1 => ?_) (fun c_1 => ?_)
  · have hE := br_p hE c_1
    exact bX15_guesses_137 C hk_3 mk_3 k_x0 k_x1 hkl hW hZ _ (lv_sub hl [0, 1, 2, 3, 4, 5] rfl) hE
  · have hE := br_n hE c_1
    refine lv_aload_n C.1 C.2.1 dX15_guesses_128 rfl (lv_at hl 0 rfl) ?_
    obtain ⟨o_2, eo_2, hE⟩ := cl_e hE
    have m1 := moX15_findsRoom eo_2
    have m2 := moX15_guesses_132 mk_3 hE
    refine x_kIA (o := o_2) hkl (z_runV (As := []) (rest := []) C (ct_X15_findsRoom l X F k_x0 eo_2) cw_X15_723 hW hZ k_x0 (by decide) rfl rfl rfl hl.1 (Nat.le_of_ble_eq_true rfl) rfl dX15_guesses_129 ⟨Nat.le_of_ble_eq_true rfl, Nat.le_of_ble_eq_true rfl⟩ (rm_ok hkl m1 m2)) hZ (fun _ _ hW km hZ => ?_)
    replace hkl := hkl.tr km
    replace k_x0 := km.at k_x0 (by decide)
    replace k_x1 := km.at k_x1 (by decide)
    exact bX15_guesses_132 C hk_3 mk_3 k_x0 k_x1 hkl hW hZ _ (lv_sub hl [0, 1, 2, 3, 4, 5] rfl) hE
set_option maxRecDepth 20000 in
theorem bX15_guesses_117 {p : Program} {l : Launch} {e : Env} {s : State} {m : MethodId} {args : Array Value} {below : List Frame} {meth : Method} {c : Code} {X : Ec} {h0 : Hp} {o : Int32 × Hp} {k_3 : Hp → Nat → Nat → Int32 → Int32 → Int32 → Int32 → Option (Int32 × Hp)} {F : Nat} (C : Cx X p s m args meth c RX15 cX15_guesses 6 (some .boolean) "guesses") (hk_3 : ∀ (h : Hp) (x0 : Nat) (x1 : Nat) (x2 : Int32) (x3 : Int32) (x4 : Int32) (x5 : Int32) (H : Heap) (locs : List Loc), hK h x0 = 15 → hK h x1 = 12 → Kl h0 h → Wx X h H → va_S (aA (eB X)) s.heap H locs → ∀ (ls : Array Slot), lv_has ls 6 [(0, .ref x0), (1, .ref x1), (2, .int x2), (3, .int x3), (4, .int x4), (5, .int x5)] → k_3 h x0 x1 x2 x3 x4 x5 = some o → W p l e (rmA 18 373 h0 o.2) s m args below meth c H locs (hS h - hS h0) (hL h - hL h0) (MQ below (QIA X h0 o.1 o.2) args s (hS o.2 - hS h0) (hL o.2 - hL h0) (aA (eB X))) (F0 m 3 ls [])) (mk_3 : ∀ (h : Hp) (x0 : Nat) (x1 : Nat) (x2 : Int32) (x3 : Int32) (x4 : Int32) (x5 : Int32), k_3 h x0 x1 x2 x3 x4 x5 = some o → Le h o.2) {h : Hp} {x0 : Nat} {x1 : Nat} {x2 : Int32} {x3 : Int32} {x4 : Int32} {x5 : Int32} {t0 : Int32} {H : Heap} {locs : List Loc} (k_x0 : hK h x0 = 15) (k_x1 : hK h x1 = 12) (hkl : Kl h0 h) (hW : Wx X h H) (hZ : va_S (aA (eB X)) s.heap H locs) (ls : Array Slot) (hl : lv_has ls 6 [(0, .ref x0), (1, .ref x1), (2, .int x2), (3, .int x3), (4, .int x4), (5, .int x5)]) (hE : sX15_guesses_117 F k_3 h x0 x1 x2 x3 x4 x5 t0 = some o) : W p l e (rmA 18 373 h0 o.2) s m args below meth c H locs (hS h - hS h0) (hL h - hL h0) (MQ below (QIA X h0 o.1 o.2) args s (hS o.2 - hS h0) (hL o.2 - hL h0) (aA (eB X))) (F0 m 117 ls [.int t0]) := by
  refine lv_if_eq (tgt := 137) C.1 C.2.1 dX15_guesses_117 (by decide) (fun c_1 => ?_) (fun c_1 => ?_)
  · have hE := br_p hE c_1
    exact bX15_guesses_137 C hk_3 mk_3 k_x0 k_x1 hkl hW hZ _ (lv_sub hl [0, 1, 2, 3, 4, 5] rfl) hE
  · have hE := br_n hE c_1
    refine lv_aload_n C.1 C.2.1 dX15_guesses_120 rfl (lv_at hl 0 rfl) ?_
    refine lv_aload_n C.1 C.2.1 dX15_guesses_121 rfl (lv_at hl 1 rfl) ?_
    obtain ⟨o_2, eo_2, hE⟩ := cl_e hE
    have m1 := moX15_leadsTo eo_2
    have m2 := moX15_guesses_125 mk_3 hE
    refine x_kI (o := o_2) (z_runV (As := [.ref x1]) (rest := []) C (ct_X15_leadsTo l X F k_x0 k_x1 eo_2) cw_X15_720 hW hZ k_x0 (by decide) rfl rfl rfl hl.1 (Nat.le_of_ble_eq_true rfl) rfl dX15_guesses_122 ⟨Nat.le_of_ble_eq_true rfl, Nat.le_of_ble_eq_true rfl⟩ (rm_ok0 hkl m1 m2)) hZ (fun _ _ hW km hZ => ?_)
    replace hkl := hkl.tr km.l
    refine x_wc km ?_
    replace k_x0 := km.at k_x0 (by decide)
    replace k_x1 := km.at k_x1 (by decide)
    exact bX15_guesses_125 C hk_3 mk_3 k_x0 k_x1 hkl hW hZ _ (lv_sub hl [0, 1, 2, 3, 4, 5] rfl) hE
set_option maxRecDepth 20000 in
theorem bX15_guesses_110 {p : Program} {l : Launch} {e : Env} {s : State} {m : MethodId} {args : Array Value} {below : List Frame} {meth : Method} {c : Code} {X : Ec} {h0 : Hp} {o : Int32 × Hp} {k_3 : Hp → Nat → Nat → Int32 → Int32 → Int32 → Int32 → Option (Int32 × Hp)} {F : Nat} (C : Cx X p s m args meth c RX15 cX15_guesses 6 (some .boolean) "guesses") (hk_3 : ∀ (h : Hp) (x0 : Nat) (x1 : Nat) (x2 : Int32) (x3 : Int32) (x4 : Int32) (x5 : Int32) (H : Heap) (locs : List Loc), hK h x0 = 15 → hK h x1 = 12 → Kl h0 h → Wx X h H → va_S (aA (eB X)) s.heap H locs → ∀ (ls : Array Slot), lv_has ls 6 [(0, .ref x0), (1, .ref x1), (2, .int x2), (3, .int x3), (4, .int x4), (5, .int x5)] → k_3 h x0 x1 x2 x3 x4 x5 = some o → W p l e (rmA 18 373 h0 o.2) s m args below meth c H locs (hS h - hS h0) (hL h - hL h0) (MQ below (QIA X h0 o.1 o.2) args s (hS o.2 - hS h0) (hL o.2 - hL h0) (aA (eB X))) (F0 m 3 ls [])) (mk_3 : ∀ (h : Hp) (x0 : Nat) (x1 : Nat) (x2 : Int32) (x3 : Int32) (x4 : Int32) (x5 : Int32), k_3 h x0 x1 x2 x3 x4 x5 = some o → Le h o.2) {h : Hp} {x0 : Nat} {x1 : Nat} {x2 : Int32} {x3 : Int32} {x4 : Int32} {x5 : Int32} {t0 : Int32} {t1 : Int32} {t2 : Nat} {H : Heap} {locs : List Loc} (k_x0 : hK h x0 = 15) (k_x1 : hK h x1 = 12) (k_t2 : hK h t2 = 17) (hkl : Kl h0 h) (hW : Wx X h H) (hZ : va_S (aA (eB X)) s.heap H locs) (ls : Array Slot) (hl : lv_has ls 6 [(0, .ref x0), (1, .ref x1), (2, .int x2), (3, .int x3), (4, .int x4), (5, .int x5)]) (hE : sX15_guesses_110 F k_3 h x0 x1 x2 x3 x4 x5 t0 t1 t2 = some o) : W p l e (rmA 18 373 h0 o.2) s m args below meth c H locs (hS h - hS h0) (hL h - hL h0) (MQ below (QIA X h0 o.1 o.2) args s (hS o.2 - hS h0) (hL o.2 - hL h0) (aA (eB X))) (F0 m 110 ls [.int t0, .int t1, .ref t2]) := by
  obtain ⟨g_1, hE⟩ := gd_e hE
  obtain ⟨h_2, eh_2, hE⟩ := nm_e2 hE
  refine y_iast C hW hZ k_t2 g_1 eh_2 dX15_guesses_110 (fun _ _ hW km hZ => ?_)
  replace hkl := hkl.tr km.l
  refine x_wc km ?_
  replace k_x0 := km.at k_x0 (by decide)
  replace k_x1 := km.at k_x1 (by decide)
  refine lv_aload_n C.1 C.2.1 dX15_guesses_111 rfl (lv_at hl 0 rfl) ?_
  refine lv_iload_n C.1 C.2.1 dX15_guesses_112 rfl (lv_at hl 3 rfl) ?_
  refine lv_iload_n C.1 C.2.1 dX15_guesses_113 rfl (lv_at hl 2 rfl) ?_
  obtain ⟨o_3, eo_3, hE⟩ := cl_e hE
  have m1 := moX15_mayCome eo_3
  have m2 := moX15_guesses_117 mk_3 hE
  refine x_kI (o := o_3) (z_runV (As := [.int x3, .int x2]) (rest := []) C (ct_X15_mayCome l X F k_x0 eo_3) cw_X15_717 hW hZ k_x0 (by decide) rfl rfl rfl hl.1 (Nat.le_of_ble_eq_true rfl) rfl dX15_guesses_114 ⟨Nat.le_of_ble_eq_true rfl, Nat.le_of_ble_eq_true rfl⟩ (rm_ok0 hkl m1 m2)) hZ (fun _ _ hW km hZ => ?_)
  replace hkl := hkl.tr km.l
  refine x_wc km ?_
  replace k_x0 := km.at k_x0 (by decide)
  replace k_x1 := km.at k_x1 (by decide)
  exact bX15_guesses_117 C hk_3 mk_3 k_x0 k_x1 hkl hW hZ _ (lv_sub hl [0, 1, 2, 3, 4, 5] rfl) hE
set_option maxRecDepth 20000 in
theorem bX15_guesses_90 {p : Program} {l : Launch} {e : Env} {s : State} {m : MethodId} {args : Array Value} {below : List Frame} {meth : Method} {c : Code} {X : Ec} {h0 : Hp} {o : Int32 × Hp} {k_3 : Hp → Nat → Nat → Int32 → Int32 → Int32 → Int32 → Option (Int32 × Hp)} {F : Nat} (C : Cx X p s m args meth c RX15 cX15_guesses 6 (some .boolean) "guesses") (hk_3 : ∀ (h : Hp) (x0 : Nat) (x1 : Nat) (x2 : Int32) (x3 : Int32) (x4 : Int32) (x5 : Int32) (H : Heap) (locs : List Loc), hK h x0 = 15 → hK h x1 = 12 → Kl h0 h → Wx X h H → va_S (aA (eB X)) s.heap H locs → ∀ (ls : Array Slot), lv_has ls 6 [(0, .ref x0), (1, .ref x1), (2, .int x2), (3, .int x3), (4, .int x4), (5, .int x5)] → k_3 h x0 x1 x2 x3 x4 x5 = some o → W p l e (rmA 18 373 h0 o.2) s m args below meth c H locs (hS h - hS h0) (hL h - hL h0) (MQ below (QIA X h0 o.1 o.2) args s (hS o.2 - hS h0) (hL o.2 - hL h0) (aA (eB X))) (F0 m 3 ls [])) (mk_3 : ∀ (h : Hp) (x0 : Nat) (x1 : Nat) (x2 : Int32) (x3 : Int32) (x4 : Int32) (x5 : Int32), k_3 h x0 x1 x2 x3 x4 x5 = some o → Le h o.2) {h : Hp} {x0 : Nat} {x1 : Nat} {x2 : Int32} {x3 : Int32} {x4 : Int32} {x5 : Int32} {t0 : Int32} {t1 : Int32} {t2 : Nat} {H : Heap} {locs : List Loc} (k_x0 : hK h x0 = 15) (k_x1 : hK h x1 = 12) (k_t2 : hK h t2 = 17) (hkl : Kl h0 h) (hW : Wx X h H) (hZ : va_S (aA (eB X)) s.heap H locs) (ls : Array Slot) (hl : lv_has ls 6 [(0, .ref x0), (1, .ref x1), (2, .int x2), (3, .int x3), (4, .int x4), (5, .int x5)]) (hE : sX15_guesses_90 F k_3 h x0 x1 x2 x3 x4 x5 t0 t1 t2 = some o) : W p l e (rmA 18 373 h0 o.2) s m args below meth c H locs (hS h - hS h0) (hL h - hL h0) (MQ below (QIA X h0 o.1 o.2) args s (hS o.2 - hS h0) (hL o.2 - hL h0) (aA (eB X))) (F0 m 90 ls [.int t0, .int t1, .ref t2]) := by
  obtain ⟨g_1, hE⟩ := gd_e hE
  obtain ⟨h_2, eh_2, hE⟩ := nm_e2 hE
  refine y_iast C hW hZ k_t2 g_1 eh_2 dX15_guesses_90 (fun _ _ hW km hZ => ?_)
  replace hkl := hkl.tr km.l
  refine x_wc km ?_
  replace k_x0 := km.at k_x0 (by decide)
  replace k_x1 := km.at k_x1 (by decide)
  refine lv_aload_n C.1 C.2.1 dX15_guesses_91 rfl (lv_at hl 0 rfl) ?_
  obtain ⟨r_3, er_3, hE⟩ := cl_e hE
  refine gf_X15_330 C hW k_x0 er_3 dX15_guesses_92 (fun k_r_3 => ?_)
  obtain ⟨r_4, er_4, hE⟩ := cl_e hE
  refine gf_X15_396 C hW k_r_3 er_4 dX15_guesses_95 (fun k_r_4 => ?_)
  refine lv_iload_n C.1 C.2.1 dX15_guesses_98 rfl (lv_at hl 3 rfl) ?_
  refine lv_iload C.1 C.2.1 dX15_guesses_99 (lv_at hl 4 rfl) ?_
  refine lv_iconst (v := (1 : Int32)) C.1 C.2.1 dX15_guesses_101 (by decide) ?_
  refine lv_aload_n C.1 C.2.1 dX15_guesses_102 rfl (lv_at hl 1 rfl) ?_
  refine gf_X15_452 C hW k_x1 dX15_guesses_103 ?_
  refine lv_isub C.1 C.2.1 dX15_guesses_106 ?_
  obtain ⟨o_5, eo_5, hE⟩ := cl_e hE
  have m1 := moX15_valueOf eo_5
  have m2 := moX15_guesses_110 mk_3 hE
  refine x_kI (o := o_5) (z_runS (As := [.int x4, .int ((1 : Int32) - (hI h_2 x1 1))]) (rest := [.int x3, .ref r_4]) C (ct_X15_valueOf l X eo_5) cw_X15_398 hW hZ rfl hl.1 (Nat.le_of_ble_eq_true rfl) rfl dX15_guesses_107 ⟨Nat.le_of_ble_eq_true rfl, Nat.le_of_ble_eq_true rfl⟩ (rm_ok0 hkl m1 m2)) hZ (fun _ _ hW km hZ => ?_)
  replace hkl := hkl.tr km.l
  refine x_wc km ?_
  replace k_x0 := km.at k_x0 (by decide)
  replace k_x1 := km.at k_x1 (by decide)
  replace k_r_4 := km.at k_r_4 (by decide)
  exact bX15_guesses_110 C hk_3 mk_3 k_x0 k_x1 k_r_4 hkl hW hZ _ (lv_sub hl [0, 1, 2, 3, 4, 5] rfl) hE
set_option maxRecDepth 20000 in
theorem bX15_guesses_25 {p : Program} {l : Launch} {e : Env} {s : State} {m : MethodId} {args : Array Value} {below : List Frame} {meth : Method} {c : Code} {X : Ec} {h0 : Hp} {o : Int32 × Hp} {k_3 : Hp → Nat → Nat → Int32 → Int32 → Int32 → Int32 → Option (Int32 × Hp)} {F : Nat} (C : Cx X p s m args meth c RX15 cX15_guesses 6 (some .boolean) "guesses") (hk_3 : ∀ (h : Hp) (x0 : Nat) (x1 : Nat) (x2 : Int32) (x3 : Int32) (x4 : Int32) (x5 : Int32) (H : Heap) (locs : List Loc), hK h x0 = 15 → hK h x1 = 12 → Kl h0 h → Wx X h H → va_S (aA (eB X)) s.heap H locs → ∀ (ls : Array Slot), lv_has ls 6 [(0, .ref x0), (1, .ref x1), (2, .int x2), (3, .int x3), (4, .int x4), (5, .int x5)] → k_3 h x0 x1 x2 x3 x4 x5 = some o → W p l e (rmA 18 373 h0 o.2) s m args below meth c H locs (hS h - hS h0) (hL h - hL h0) (MQ below (QIA X h0 o.1 o.2) args s (hS o.2 - hS h0) (hL o.2 - hL h0) (aA (eB X))) (F0 m 3 ls [])) (mk_3 : ∀ (h : Hp) (x0 : Nat) (x1 : Nat) (x2 : Int32) (x3 : Int32) (x4 : Int32) (x5 : Int32), k_3 h x0 x1 x2 x3 x4 x5 = some o → Le h o.2) {h : Hp} {x0 : Nat} {x1 : Nat} {x2 : Int32} {x3 : Int32} {x4 : Int32} {x5 : Int32} {H : Heap} {locs : List Loc} (k_x0 : hK h x0 = 15) (k_x1 : hK h x1 = 12) (hkl : Kl h0 h) (hW : Wx X h H) (hZ : va_S (aA (eB X)) s.heap H locs) (ls : Array Slot) (hl : lv_has ls 6 [(0, .ref x0), (1, .ref x1), (2, .int x2), (3, .int x3), (4, .int x4), (5, .int x5)]) (hE : sX15_guesses_25 F k_3 h x0 x1 x2 x3 x4 x5 = some o) : W p l e (rmA 18 373 h0 o.2) s m args below meth c H locs (hS h - hS h0) (hL h - hL h0) (MQ below (QIA X h0 o.1 o.2) args s (hS o.2 - hS h0) (hL o.2 - hL h0) (aA (eB X))) (F0 m 25 ls []) := by
  refine lv_aload_n C.1 C.2.1 dX15_guesses_25 rfl (lv_at hl 0 rfl) ?_
  obtain ⟨r_1, er_1, hE⟩ := cl_e hE
  refine gf_X15_330 C hW k_x0 er_1 dX15_guesses_26 (fun k_r_1 => ?_)
  refine lv_lconst (v := (0 : Int64)) C.1 C.2.1 dX15_guesses_29 (by decide) ?_
  obtain ⟨h_2, eh_2, hE⟩ := nm_e2 hE
  refine pf_X15_436 C hW hZ k_r_1 eh_2 dX15_guesses_30 (fun _ _ hW km hZ => ?_)
  replace hkl := hkl.tr km.l
  refine x_wc km ?_
  replace k_x0 := km.at k_x0 (by decide)
  replace k_x1 := km.at k_x1 (by decide)
  refine lv_aload_n C.1 C.2.1 dX15_guesses_33 rfl (lv_at hl 0 rfl) ?_
  obtain ⟨r_3, er_3, hE⟩ := cl_e hE
  refine gf_X15_330 C hW k_x0 er_3 dX15_guesses_34 (fun k_r_3 => ?_)
  refine lv_iconst (v := (0 : Int32)) C.1 C.2.1 dX15_guesses_37 (by decide) ?_
  obtain ⟨h_4, eh_4, hE⟩ := nm_e2 hE
  refine pf_X15_441 C hW hZ k_r_3 eh_4 dX15_guesses_38 (fun _ _ hW km hZ => ?_)
  replace hkl := hkl.tr km.l
  refine x_wc km ?_
  replace k_x0 := km.at k_x0 (by decide)
  replace k_x1 := km.at k_x1 (by decide)
  refine lv_aload_n C.1 C.2.1 dX15_guesses_41 rfl (lv_at hl 0 rfl) ?_
  obtain ⟨r_5, er_5, hE⟩ := cl_e hE
  refine gf_X15_330 C hW k_x0 er_5 dX15_guesses_42 (fun k_r_5 => ?_)
  refine lv_iconst (v := (0 : Int32)) C.1 C.2.1 dX15_guesses_45 (by decide) ?_
  obtain ⟨h_6, eh_6, hE⟩ := nm_e2 hE
  refine pf_X15_449 C hW hZ k_r_5 eh_6 dX15_guesses_46 (fun _ _ hW km hZ => ?_)
  replace hkl := hkl.tr km.l
  refine x_wc km ?_
  replace k_x0 := km.at k_x0 (by decide)
  replace k_x1 := km.at k_x1 (by decide)
  refine lv_aload_n C.1 C.2.1 dX15_guesses_49 rfl (lv_at hl 0 rfl) ?_
  obtain ⟨r_7, er_7, hE⟩ := cl_e hE
  refine gf_X15_330 C hW k_x0 er_7 dX15_guesses_50 (fun k_r_7 => ?_)
  refine lv_iconst (v := (1 : Int32)) C.1 C.2.1 dX15_guesses_53 (by decide) ?_
  refine lv_aload_n C.1 C.2.1 dX15_guesses_54 rfl (lv_at hl 1 rfl) ?_
  refine gf_X15_452 C hW k_x1 dX15_guesses_55 ?_
  refine lv_isub C.1 C.2.1 dX15_guesses_58 ?_
  obtain ⟨h_8, eh_8, hE⟩ := nm_e2 hE
  refine pf_X15_452 C hW hZ k_r_7 eh_8 dX15_guesses_59 (fun _ _ hW km hZ => ?_)
  replace hkl := hkl.tr km.l
  refine x_wc km ?_
  replace k_x0 := km.at k_x0 (by decide)
  replace k_x1 := km.at k_x1 (by decide)
  refine lv_aload_n C.1 C.2.1 dX15_guesses_62 rfl (lv_at hl 0 rfl) ?_
  obtain ⟨r_9, er_9, hE⟩ := cl_e hE
  refine gf_X15_330 C hW k_x0 er_9 dX15_guesses_63 (fun k_r_9 => ?_)
  obtain ⟨r_10, er_10, hE⟩ := cl_e hE
  refine gf_X15_396 C hW k_r_9 er_10 dX15_guesses_66 (fun k_r_10 => ?_)
  refine lv_iload_n C.1 C.2.1 dX15_guesses_69 rfl (lv_at hl 2 rfl) ?_
  refine lv_iload C.1 C.2.1 dX15_guesses_70 (lv_at hl 5 rfl) ?_
  refine lv_if_ne (tgt := 79) C.1 C.2.1 dX15_guesses_72 (by decide) (fun c_11 => ?_) (fun c_11 => ?_)
  · have hE := br_n hE c_11
    refine lv_iload C.1 C.2.1 dX15_guesses_79 (lv_at hl 5 rfl) ?_
    refine lv_iconst (v := (1 : Int32)) C.1 C.2.1 dX15_guesses_81 (by decide) ?_
    refine lv_isub C.1 C.2.1 dX15_guesses_82 ?_
    refine lv_aload_n C.1 C.2.1 dX15_guesses_83 rfl (lv_at hl 1 rfl) ?_
    refine gf_X15_452 C hW k_x1 dX15_guesses_84 ?_
    obtain ⟨o_12, eo_12, hE⟩ := cl_e hE
    have m1 := moX15_valueOf eo_12
    have m2 := moX15_guesses_90 mk_3 hE
    refine x_kI (o := o_12) (z_runS (As := [.int (x5 - (1 : Int32)), .int (hI h_8 x1 1)]) (rest := [.int x2, .ref r_10]) C (ct_X15_valueOf l X eo_12) cw_X15_398 hW hZ rfl hl.1 (Nat.le_of_ble_eq_true rfl) rfl dX15_guesses_87 ⟨Nat.le_of_ble_eq_true rfl, Nat.le_of_ble_eq_true rfl⟩ (rm_ok0 hkl m1 m2)) hZ (fun _ _ hW km hZ => ?_)
    replace hkl := hkl.tr km.l
    refine x_wc km ?_
    replace k_x0 := km.at k_x0 (by decide)
    replace k_x1 := km.at k_x1 (by decide)
    replace k_r_10 := km.at k_r_10 (by decide)
    exact bX15_guesses_90 C hk_3 mk_3 k_x0 k_x1 k_r_10 hkl hW hZ _ (lv_sub hl [0, 1, 2, 3, 4, 5] rfl) hE
  · have hE := br_p hE c_11
    refine lv_iconst (v := (0 : Int32)) C.1 C.2.1 dX15_guesses_75 (by decide) ?_
    refine lv_goto (tgt := 90) C.1 C.2.1 dX15_guesses_76 (by decide) ?_
    exact bX15_guesses_90 C hk_3 mk_3 k_x0 k_x1 k_r_10 hkl hW hZ _ (lv_sub hl [0, 1, 2, 3, 4, 5] rfl) hE
set_option maxRecDepth 20000 in
theorem bX15_guesses_3 {p : Program} {l : Launch} {e : Env} {s : State} {m : MethodId} {args : Array Value} {below : List Frame} {meth : Method} {c : Code} {X : Ec} {h0 : Hp} {o : Int32 × Hp} {F : Nat} (C : Cx X p s m args meth c RX15 cX15_guesses 6 (some .boolean) "guesses") : ∀ (f : Nat) {h : Hp} {x0 : Nat} {x1 : Nat} {x2 : Int32} {x3 : Int32} {x4 : Int32} {x5 : Int32} {H : Heap} {locs : List Loc} (k_x0 : hK h x0 = 15) (k_x1 : hK h x1 = 12), Kl h0 h → Wx X h H → va_S (aA (eB X)) s.heap H locs → ∀ (ls : Array Slot), lv_has ls 6 [(0, .ref x0), (1, .ref x1), (2, .int x2), (3, .int x3), (4, .int x4), (5, .int x5)] → sX15_guesses_3 F f h x0 x1 x2 x3 x4 x5 = some o → W p l e (rmA 18 373 h0 o.2) s m args below meth c H locs (hS h - hS h0) (hL h - hL h0) (MQ below (QIA X h0 o.1 o.2) args s (hS o.2 - hS h0) (hL o.2 - hL h0) (aA (eB X))) (F0 m 3 ls []) := by
  intro f
  induction f with
  | zero =>
    intro h x0 x1 x2 x3 x4 x5 H locs k_x0 k_x1 hkl hW hZ ls hl hE
    rw [sX15_guesses_3] at hE
    cases hE
  | succ f ih =>
    intro h x0 x1 x2 x3 x4 x5 H locs k_x0 k_x1 hkl hW hZ ls hl hE
    rw [sX15_guesses_3] at hE
    have mk_3 : ∀ (h : Hp) (x0 : Nat) (x1 : Nat) (x2 : Int32) (x3 : Int32) (x4 : Int32) (x5 : Int32), sX15_guesses_3 F f h x0 x1 x2 x3 x4 x5 = some o → Le h o.2 := fun h x0 x1 x2 x3 x4 x5 hE => moX15_guesses_3 _ hE
    have hk_3 : ∀ (h : Hp) (x0 : Nat) (x1 : Nat) (x2 : Int32) (x3 : Int32) (x4 : Int32) (x5 : Int32) (H : Heap) (locs : List Loc), hK h x0 = 15 → hK h x1 = 12 → Kl h0 h → Wx X h H → va_S (aA (eB X)) s.heap H locs → ∀ (ls : Array Slot), lv_has ls 6 [(0, .ref x0), (1, .ref x1), (2, .int x2), (3, .int x3), (4, .int x4), (5, .int x5)] → sX15_guesses_3 F f h x0 x1 x2 x3 x4 x5 = some o → W p l e (rmA 18 373 h0 o.2) s m args below meth c H locs (hS h - hS h0) (hL h - hL h0) (MQ below (QIA X h0 o.1 o.2) args s (hS o.2 - hS h0) (hL o.2 - hL h0) (aA (eB X))) (F0 m 3 ls []) := fun h x0 x1 x2 x3 x4 x5 H locs k_x0 k_x1 a b c ls hl hE => ih k_x0 k_x1 a b c ls hl hE
    refine lv_iload C.1 C.2.1 dX15_guesses_3 (lv_at hl 5 rfl) ?_
    refine lv_iconst (v := (1 : Int32)) C.1 C.2.1 dX15_guesses_5 (by decide) ?_
    refine lv_aload_n C.1 C.2.1 dX15_guesses_6 rfl (lv_at hl 0 rfl) ?_
    obtain ⟨r_1, er_1, hE⟩ := cl_e hE
    refine gf_X15_252 C hW k_x0 er_1 dX15_guesses_7 (fun k_r_1 => ?_)
    refine gf_X15_169 C hW k_r_1 dX15_guesses_10 ?_
    refine lv_iadd C.1 C.2.1 dX15_guesses_13 ?_
    refine lv_icmp_ge (tgt := 143) C.1 C.2.1 dX15_guesses_14 (by decide) (fun c_2 => ?_) (fun c_2 => ?_)
    · have hE := br_p hE c_2
      refine lv_iconst (v := (1 : Int32)) C.1 C.2.1 dX15_guesses_143 (by decide) ?_
      exact x_iretA C rfl (by decide) hW hZ hkl hE dX15_guesses_144
    · have hE := br_n hE c_2
      refine lv_aload_n C.1 C.2.1 dX15_guesses_17 rfl (lv_at hl 0 rfl) ?_
      obtain ⟨r_3, er_3, hE⟩ := cl_e hE
      refine gf_X15_330 C hW k_x0 er_3 dX15_guesses_18 (fun k_r_3 => ?_)
      refine lv_aload_n C.1 C.2.1 dX15_guesses_21 rfl (lv_at hl 1 rfl) ?_
      obtain ⟨o_4, eo_4, hE⟩ := cl_e hE
      have m1 := moX12_copy eo_4
      have m2 := moX15_guesses_25 mk_3 hE
      refine x_kV (o := o_4) (z_runV (As := [.ref x1]) (rest := []) C (ct_X12_copy l X k_r_3 k_x1 eo_4) cw_X15_405 hW hZ k_r_3 (by decide) rfl rfl rfl hl.1 (Nat.le_of_ble_eq_true rfl) rfl dX15_guesses_22 ⟨Nat.le_of_ble_eq_true rfl, Nat.le_of_ble_eq_true rfl⟩ (rm_ok0 hkl m1 m2)) hZ (fun _ _ hW km hZ => ?_)
      replace hkl := hkl.tr km.l
      refine x_wc km ?_
      replace k_x0 := km.at k_x0 (by decide)
      replace k_x1 := km.at k_x1 (by decide)
      exact bX15_guesses_25 C hk_3 mk_3 k_x0 k_x1 hkl hW hZ _ (lv_sub hl [0, 1, 2, 3, 4, 5] rfl) hE
set_option maxRecDepth 20000 in
theorem ct_X15_guesses (l : Launch) (X : Ec) (F : Nat) {h : Hp} {x0 : Nat} {x1 : Nat} {x2 : Int32} {x3 : Int32} {x4 : Int32} {o : Int32 × Hp} (k_x0 : hK h x0 = 15) (k_x1 : hK h x1 = 12) (hE : sX15_guesses F h x0 x1 x2 x3 x4 = some o) : MetIA l yX15_guesses cX15_guesses 6 (some .boolean) 18 373 X [.ref x0, .ref x1, .int x2, .int x3, .int x4] h o := by
  refine x_metA (oh := o.2) (by decide) (Nat.le_of_ble_eq_true rfl) ?_
  intro p e s m below meth c ls C hl hW hZ
  have hl : lv_has ls 6 [(0, .ref x0), (1, .ref x1), (2, .int x2), (3, .int x3), (4, .int x4)] := hl
  have hkl : Kl h h := Kl.rf h
  refine lv_iconst (v := (0 : Int32)) C.1 C.2.1 dX15_guesses_0 (by decide) ?_
  refine lv_istore (lv' := [(5, .int (0 : Int32)), (0, .ref x0), (1, .ref x1), (2, .int x2), (3, .int x3), (4, .int x4)]) C.1 C.2.1 dX15_guesses_1 hl (by decide) rfl (fun ls hl => ?_)
  exact bX15_guesses_3 C F k_x0 k_x1 hkl hW hZ _ (lv_sub hl [1, 2, 3, 4, 5, 0] rfl) hE
set_option maxRecDepth 100000 in
theorem ms_194 : Cond.selects RX15 yX15_guesses yX15_guesses ∈ W0 := w0_in (List.mem_append_left _ (List.mem_of_getElem? (i := 194) rfl)) rfl
set_option maxRecDepth 100000 in
theorem m_2715 : Cond.methodLink RX15 727 yX15_guesses ∈ W0 := w0_in (List.mem_append_right _ (List.mem_of_getElem? (i := 2715) rfl)) rfl
set_option maxRecDepth 100000 in
theorem m_2717 : Cond.instanceMethod yX15_guesses ∈ W0 := w0_in (List.mem_append_right _ (List.mem_of_getElem? (i := 2717) rfl)) rfl
set_option maxRecDepth 100000 in
theorem m_2718 : Cond.code yX15_guesses cX15_guesses 6 (some .boolean) ∈ W0 := w0_in (List.mem_append_right _ (List.mem_of_getElem? (i := 2718) rfl)) rfl
theorem cw_X15_727 : cwd RX15 727 yX15_guesses cX15_guesses 6 (some .boolean) false 4 := ⟨m_2718, m_2715, m_19, ⟨m_2717, ms_194⟩, by decide, by decide, by decide +kernel⟩
theorem dX15_guessesAll_0 : decode cX15_guessesAll 0 = .ok (.iconst 1, 1) := by decide +kernel
theorem dX15_guessesAll_1 : decode cX15_guessesAll 1 = .ok (.aload_n 1, 1) := by decide +kernel
theorem dX15_guessesAll_2 : decode cX15_guessesAll 2 = .ok (.getfield 452, 3) := by decide +kernel
theorem dX15_guessesAll_5 : decode cX15_guessesAll 5 = .ok (.isub, 1) := by decide +kernel
theorem dX15_guessesAll_6 : decode cX15_guessesAll 6 = .ok (.istore_n 3, 1) := by decide +kernel
theorem dX15_guessesAll_7 : decode cX15_guessesAll 7 = .ok (.aload_n 1, 1) := by decide +kernel
theorem dX15_guessesAll_8 : decode cX15_guessesAll 8 = .ok (.getfield 396, 3) := by decide +kernel
theorem dX15_guessesAll_11 : decode cX15_guessesAll 11 = .ok (.iload_n 2, 1) := by decide +kernel
theorem dX15_guessesAll_12 : decode cX15_guessesAll 12 = .ok (.iaload, 1) := by decide +kernel
theorem dX15_guessesAll_13 : decode cX15_guessesAll 13 = .ok (.invokestatic 492, 3) := by decide +kernel
theorem dX15_guessesAll_16 : decode cX15_guessesAll 16 = .ok (.istore 4, 2) := by decide +kernel
theorem dX15_guessesAll_18 : decode cX15_guessesAll 18 = .ok (.iconst 0, 1) := by decide +kernel
theorem dX15_guessesAll_19 : decode cX15_guessesAll 19 = .ok (.istore 5, 2) := by decide +kernel
theorem dX15_guessesAll_21 : decode cX15_guessesAll 21 = .ok (.iload 5, 2) := by decide +kernel
theorem dX15_guessesAll_23 : decode cX15_guessesAll 23 = .ok (.aload_n 0, 1) := by decide +kernel
theorem dX15_guessesAll_24 : decode cX15_guessesAll 24 = .ok (.getfield 252, 3) := by decide +kernel
theorem dX15_guessesAll_27 : decode cX15_guessesAll 27 = .ok (.getfield 169, 3) := by decide +kernel
theorem dX15_guessesAll_30 : decode cX15_guessesAll 30 = .ok (.if_icmp .ge 139, 3) := by decide +kernel
theorem dX15_guessesAll_33 : decode cX15_guessesAll 33 = .ok (.iload 5, 2) := by decide +kernel
theorem dX15_guessesAll_35 : decode cX15_guessesAll 35 = .ok (.iload 4, 2) := by decide +kernel
theorem dX15_guessesAll_37 : decode cX15_guessesAll 37 = .ok (.if_icmp .ne 7, 3) := by decide +kernel
theorem dX15_guessesAll_40 : decode cX15_guessesAll 40 = .ok (.iconst 1, 1) := by decide +kernel
theorem dX15_guessesAll_41 : decode cX15_guessesAll 41 = .ok (.goto 4, 3) := by decide +kernel
theorem dX15_guessesAll_44 : decode cX15_guessesAll 44 = .ok (.iconst 0, 1) := by decide +kernel
theorem dX15_guessesAll_45 : decode cX15_guessesAll 45 = .ok (.istore 6, 2) := by decide +kernel
theorem dX15_guessesAll_47 : decode cX15_guessesAll 47 = .ok (.iconst 0, 1) := by decide +kernel
theorem dX15_guessesAll_48 : decode cX15_guessesAll 48 = .ok (.istore 7, 2) := by decide +kernel
theorem dX15_guessesAll_50 : decode cX15_guessesAll 50 = .ok (.iload 7, 2) := by decide +kernel
theorem dX15_guessesAll_52 : decode cX15_guessesAll 52 = .ok (.aload_n 0, 1) := by decide +kernel
theorem dX15_guessesAll_53 : decode cX15_guessesAll 53 = .ok (.getfield 252, 3) := by decide +kernel
theorem dX15_guessesAll_56 : decode cX15_guessesAll 56 = .ok (.getfield 215, 3) := by decide +kernel
theorem dX15_guessesAll_59 : decode cX15_guessesAll 59 = .ok (.iload 5, 2) := by decide +kernel
theorem dX15_guessesAll_61 : decode cX15_guessesAll 61 = .ok (.iaload, 1) := by decide +kernel
theorem dX15_guessesAll_62 : decode cX15_guessesAll 62 = .ok (.if_icmp .ge 53, 3) := by decide +kernel
theorem dX15_guessesAll_65 : decode cX15_guessesAll 65 = .ok (.iload 6, 2) := by decide +kernel
theorem dX15_guessesAll_67 : decode cX15_guessesAll 67 = .ok (.aload_n 0, 1) := by decide +kernel
theorem dX15_guessesAll_68 : decode cX15_guessesAll 68 = .ok (.getfield 252, 3) := by decide +kernel
theorem dX15_guessesAll_71 : decode cX15_guessesAll 71 = .ok (.getfield 223, 3) := by decide +kernel
theorem dX15_guessesAll_74 : decode cX15_guessesAll 74 = .ok (.bipush 6, 2) := by decide +kernel
theorem dX15_guessesAll_76 : decode cX15_guessesAll 76 = .ok (.iload 5, 2) := by decide +kernel
theorem dX15_guessesAll_78 : decode cX15_guessesAll 78 = .ok (.imul, 1) := by decide +kernel
theorem dX15_guessesAll_79 : decode cX15_guessesAll 79 = .ok (.iload 7, 2) := by decide +kernel
theorem dX15_guessesAll_81 : decode cX15_guessesAll 81 = .ok (.iadd, 1) := by decide +kernel
theorem dX15_guessesAll_82 : decode cX15_guessesAll 82 = .ok (.iaload, 1) := by decide +kernel
theorem dX15_guessesAll_83 : decode cX15_guessesAll 83 = .ok (.iload 4, 2) := by decide +kernel
theorem dX15_guessesAll_85 : decode cX15_guessesAll 85 = .ok (.if_icmp .ne 20, 3) := by decide +kernel
theorem dX15_guessesAll_88 : decode cX15_guessesAll 88 = .ok (.aload_n 0, 1) := by decide +kernel
theorem dX15_guessesAll_89 : decode cX15_guessesAll 89 = .ok (.iload_n 2, 1) := by decide +kernel
theorem dX15_guessesAll_90 : decode cX15_guessesAll 90 = .ok (.iload_n 3, 1) := by decide +kernel
theorem dX15_guessesAll_91 : decode cX15_guessesAll 91 = .ok (.invokevirtual 498, 3) := by decide +kernel
theorem dX15_guessesAll_94 : decode cX15_guessesAll 94 = .ok (.aload_n 0, 1) := by decide +kernel
theorem dX15_guessesAll_95 : decode cX15_guessesAll 95 = .ok (.getfield 383, 3) := by decide +kernel
theorem dX15_guessesAll_98 : decode cX15_guessesAll 98 = .ok (.if_icmp .ne 7, 3) := by decide +kernel
theorem dX15_guessesAll_101 : decode cX15_guessesAll 101 = .ok (.iconst 1, 1) := by decide +kernel
theorem dX15_guessesAll_102 : decode cX15_guessesAll 102 = .ok (.goto 4, 3) := by decide +kernel
theorem dX15_guessesAll_105 : decode cX15_guessesAll 105 = .ok (.iconst 0, 1) := by decide +kernel
theorem dX15_guessesAll_106 : decode cX15_guessesAll 106 = .ok (.ior, 1) := by decide +kernel
theorem dX15_guessesAll_107 : decode cX15_guessesAll 107 = .ok (.istore 6, 2) := by decide +kernel
theorem dX15_guessesAll_109 : decode cX15_guessesAll 109 = .ok (.iinc 7 1, 3) := by decide +kernel
theorem dX15_guessesAll_112 : decode cX15_guessesAll 112 = .ok (.goto (-62), 3) := by decide +kernel
theorem dX15_guessesAll_115 : decode cX15_guessesAll 115 = .ok (.iconst 0, 1) := by decide +kernel
theorem dX15_guessesAll_116 : decode cX15_guessesAll 116 = .ok (.istore 7, 2) := by decide +kernel
theorem dX15_guessesAll_118 : decode cX15_guessesAll 118 = .ok (.iload 7, 2) := by decide +kernel
theorem dX15_guessesAll_120 : decode cX15_guessesAll 120 = .ok (.aload_n 0, 1) := by decide +kernel
theorem dX15_guessesAll_121 : decode cX15_guessesAll 121 = .ok (.getfield 384, 3) := by decide +kernel
theorem dX15_guessesAll_124 : decode cX15_guessesAll 124 = .ok (.if_icmp .ge 39, 3) := by decide +kernel
theorem dX15_guessesAll_127 : decode cX15_guessesAll 127 = .ok (.iload 6, 2) := by decide +kernel
theorem dX15_guessesAll_129 : decode cX15_guessesAll 129 = .ok (.ifCond .eq 34, 3) := by decide +kernel
theorem dX15_guessesAll_132 : decode cX15_guessesAll 132 = .ok (.aload_n 1, 1) := by decide +kernel
theorem dX15_guessesAll_133 : decode cX15_guessesAll 133 = .ok (.getfield 396, 3) := by decide +kernel
theorem dX15_guessesAll_136 : decode cX15_guessesAll 136 = .ok (.iload 7, 2) := by decide +kernel
theorem dX15_guessesAll_138 : decode cX15_guessesAll 138 = .ok (.iaload, 1) := by decide +kernel
theorem dX15_guessesAll_139 : decode cX15_guessesAll 139 = .ok (.ifCond .ne 18, 3) := by decide +kernel
theorem dX15_guessesAll_142 : decode cX15_guessesAll 142 = .ok (.aload_n 0, 1) := by decide +kernel
theorem dX15_guessesAll_143 : decode cX15_guessesAll 143 = .ok (.aload_n 1, 1) := by decide +kernel
theorem dX15_guessesAll_144 : decode cX15_guessesAll 144 = .ok (.iload_n 2, 1) := by decide +kernel
theorem dX15_guessesAll_145 : decode cX15_guessesAll 145 = .ok (.iload 7, 2) := by decide +kernel
theorem dX15_guessesAll_147 : decode cX15_guessesAll 147 = .ok (.iload 5, 2) := by decide +kernel
theorem dX15_guessesAll_149 : decode cX15_guessesAll 149 = .ok (.invokevirtual 727, 3) := by decide +kernel
theorem dX15_guessesAll_152 : decode cX15_guessesAll 152 = .ok (.ifCond .ne 5, 3) := by decide +kernel
theorem dX15_guessesAll_155 : decode cX15_guessesAll 155 = .ok (.iconst 0, 1) := by decide +kernel
theorem dX15_guessesAll_156 : decode cX15_guessesAll 156 = .ok (.ireturn, 1) := by decide +kernel
theorem dX15_guessesAll_157 : decode cX15_guessesAll 157 = .ok (.iinc 7 1, 3) := by decide +kernel
theorem dX15_guessesAll_160 : decode cX15_guessesAll 160 = .ok (.goto (-42), 3) := by decide +kernel
theorem dX15_guessesAll_163 : decode cX15_guessesAll 163 = .ok (.iinc 5 1, 3) := by decide +kernel
theorem dX15_guessesAll_166 : decode cX15_guessesAll 166 = .ok (.goto (-145), 3) := by decide +kernel
theorem dX15_guessesAll_169 : decode cX15_guessesAll 169 = .ok (.iconst 1, 1) := by decide +kernel
theorem dX15_guessesAll_170 : decode cX15_guessesAll 170 = .ok (.ireturn, 1) := by decide +kernel
set_option maxRecDepth 20000 in
theorem moX15_guessesAll_163 {o : Int32 × Hp} {k_21 : Hp → Nat → Nat → Int32 → Int32 → Int32 → Int32 → Option (Int32 × Hp)} {F : Nat} (mk_21 : ∀ (h : Hp) (x0 : Nat) (x1 : Nat) (x2 : Int32) (x3 : Int32) (x4 : Int32) (x5 : Int32), k_21 h x0 x1 x2 x3 x4 x5 = some o → Le h o.2) {h : Hp} {x0 : Nat} {x1 : Nat} {x2 : Int32} {x3 : Int32} {x4 : Int32} {x5 : Int32} (hE : sX15_guessesAll_163 F k_21 h x0 x1 x2 x3 x4 x5 = some o) : Le h o.2 := by
  obtain ⟨v_1, ev_1, hE⟩ := nm_e2 hE
  exact mk_21 _ _ _ _ _ _ _ hE
set_option maxRecDepth 20000 in
theorem moX15_guessesAll_157 {o : Int32 × Hp} {k_21 : Hp → Nat → Nat → Int32 → Int32 → Int32 → Int32 → Option (Int32 × Hp)} {k_118 : Hp → Nat → Nat → Int32 → Int32 → Int32 → Int32 → Int32 → Int32 → Option (Int32 × Hp)} {F : Nat} (mk_21 : ∀ (h : Hp) (x0 : Nat) (x1 : Nat) (x2 : Int32) (x3 : Int32) (x4 : Int32) (x5 : Int32), k_21 h x0 x1 x2 x3 x4 x5 = some o → Le h o.2) (mk_118 : ∀ (h : Hp) (x0 : Nat) (x1 : Nat) (x2 : Int32) (x3 : Int32) (x4 : Int32) (x5 : Int32) (x6 : Int32) (x7 : Int32), k_118 h x0 x1 x2 x3 x4 x5 x6 x7 = some o → Le h o.2) {h : Hp} {x0 : Nat} {x1 : Nat} {x2 : Int32} {x3 : Int32} {x4 : Int32} {x5 : Int32} {x6 : Int32} {x7 : Int32} (hE : sX15_guessesAll_157 F k_21 k_118 h x0 x1 x2 x3 x4 x5 x6 x7 = some o) : Le h o.2 := by
  obtain ⟨v_1, ev_1, hE⟩ := nm_e2 hE
  exact mk_118 _ _ _ _ _ _ _ _ _ hE
set_option maxRecDepth 20000 in
theorem moX15_guessesAll_152 {o : Int32 × Hp} {k_21 : Hp → Nat → Nat → Int32 → Int32 → Int32 → Int32 → Option (Int32 × Hp)} {k_118 : Hp → Nat → Nat → Int32 → Int32 → Int32 → Int32 → Int32 → Int32 → Option (Int32 × Hp)} {F : Nat} (mk_21 : ∀ (h : Hp) (x0 : Nat) (x1 : Nat) (x2 : Int32) (x3 : Int32) (x4 : Int32) (x5 : Int32), k_21 h x0 x1 x2 x3 x4 x5 = some o → Le h o.2) (mk_118 : ∀ (h : Hp) (x0 : Nat) (x1 : Nat) (x2 : Int32) (x3 : Int32) (x4 : Int32) (x5 : Int32) (x6 : Int32) (x7 : Int32), k_118 h x0 x1 x2 x3 x4 x5 x6 x7 = some o → Le h o.2) {h : Hp} {x0 : Nat} {x1 : Nat} {x2 : Int32} {x3 : Int32} {x4 : Int32} {x5 : Int32} {x6 : Int32} {x7 : Int32} {t0 : Int32} (hE : sX15_guessesAll_152 F k_21 k_118 h x0 x1 x2 x3 x4 x5 x6 x7 t0 = some o) : Le h o.2 := by
  rcases br_e hE with ⟨_, hE⟩ | ⟨_, hE⟩
  · exact le_some2 hE
  · exact moX15_guessesAll_157 mk_21 mk_118 hE
set_option maxRecDepth 20000 in
theorem moX15_guessesAll_118 {o : Int32 × Hp} {k_21 : Hp → Nat → Nat → Int32 → Int32 → Int32 → Int32 → Option (Int32 × Hp)} {F : Nat} (mk_21 : ∀ (h : Hp) (x0 : Nat) (x1 : Nat) (x2 : Int32) (x3 : Int32) (x4 : Int32) (x5 : Int32), k_21 h x0 x1 x2 x3 x4 x5 = some o → Le h o.2) : ∀ (f : Nat) {h : Hp} {x0 : Nat} {x1 : Nat} {x2 : Int32} {x3 : Int32} {x4 : Int32} {x5 : Int32} {x6 : Int32} {x7 : Int32}, sX15_guessesAll_118 F k_21 f h x0 x1 x2 x3 x4 x5 x6 x7 = some o → Le h o.2 := by
  intro f
  induction f with
  | zero =>
    intro h x0 x1 x2 x3 x4 x5 x6 x7 hE
    rw [sX15_guessesAll_118] at hE
    cases hE
  | succ f ih =>
    intro h x0 x1 x2 x3 x4 x5 x6 x7 hE
    rw [sX15_guessesAll_118] at hE
    have mk_118 : ∀ (h : Hp) (x0 : Nat) (x1 : Nat) (x2 : Int32) (x3 : Int32) (x4 : Int32) (x5 : Int32) (x6 : Int32) (x7 : Int32), sX15_guessesAll_118 F k_21 f h x0 x1 x2 x3 x4 x5 x6 x7 = some o → Le h o.2 := fun h x0 x1 x2 x3 x4 x5 x6 x7 hE => ih hE
    rcases br_e hE with ⟨_, hE⟩ | ⟨_, hE⟩
    · exact moX15_guessesAll_163 mk_21 hE
    · rcases br_e hE with ⟨_, hE⟩ | ⟨_, hE⟩
      · exact moX15_guessesAll_163 mk_21 hE
      · obtain ⟨r_3, er_3, hE⟩ := cl_e hE
        obtain ⟨g_4, hE⟩ := gd_e hE
        rcases br_e hE with ⟨_, hE⟩ | ⟨_, hE⟩
        · obtain ⟨o_6, eo_6, hE⟩ := cl_e hE
          refine (moX15_guesses eo_6).tr ?_
          exact moX15_guessesAll_152 mk_21 mk_118 hE
        · exact moX15_guessesAll_157 mk_21 mk_118 hE
set_option maxRecDepth 20000 in
theorem moX15_guessesAll_106 {o : Int32 × Hp} {k_21 : Hp → Nat → Nat → Int32 → Int32 → Int32 → Int32 → Option (Int32 × Hp)} {k_50 : Hp → Nat → Nat → Int32 → Int32 → Int32 → Int32 → Int32 → Int32 → Option (Int32 × Hp)} {F : Nat} (mk_21 : ∀ (h : Hp) (x0 : Nat) (x1 : Nat) (x2 : Int32) (x3 : Int32) (x4 : Int32) (x5 : Int32), k_21 h x0 x1 x2 x3 x4 x5 = some o → Le h o.2) (mk_50 : ∀ (h : Hp) (x0 : Nat) (x1 : Nat) (x2 : Int32) (x3 : Int32) (x4 : Int32) (x5 : Int32) (x6 : Int32) (x7 : Int32), k_50 h x0 x1 x2 x3 x4 x5 x6 x7 = some o → Le h o.2) {h : Hp} {x0 : Nat} {x1 : Nat} {x2 : Int32} {x3 : Int32} {x4 : Int32} {x5 : Int32} {x7 : Int32} {t0 : Int32} {t1 : Int32} (hE : sX15_guessesAll_106 F k_21 k_50 h x0 x1 x2 x3 x4 x5 x7 t0 t1 = some o) : Le h o.2 := by
  obtain ⟨v_1, ev_1, hE⟩ := nm_e2 hE
  obtain ⟨v_2, ev_2, hE⟩ := nm_e2 hE
  exact mk_50 _ _ _ _ _ _ _ _ _ hE
set_option maxRecDepth 20000 in
theorem moX15_guessesAll_105 {o : Int32 × Hp} {k_21 : Hp → Nat → Nat → Int32 → Int32 → Int32 → Int32 → Option (Int32 × Hp)} {k_50 : Hp → Nat → Nat → Int32 → Int32 → Int32 → Int32 → Int32 → Int32 → Option (Int32 × Hp)} {F : Nat} (mk_21 : ∀ (h : Hp) (x0 : Nat) (x1 : Nat) (x2 : Int32) (x3 : Int32) (x4 : Int32) (x5 : Int32), k_21 h x0 x1 x2 x3 x4 x5 = some o → Le h o.2) (mk_50 : ∀ (h : Hp) (x0 : Nat) (x1 : Nat) (x2 : Int32) (x3 : Int32) (x4 : Int32) (x5 : Int32) (x6 : Int32) (x7 : Int32), k_50 h x0 x1 x2 x3 x4 x5 x6 x7 = some o → Le h o.2) {h : Hp} {x0 : Nat} {x1 : Nat} {x2 : Int32} {x3 : Int32} {x4 : Int32} {x5 : Int32} {x7 : Int32} {t0 : Int32} (hE : sX15_guessesAll_105 F k_21 k_50 h x0 x1 x2 x3 x4 x5 x7 t0 = some o) : Le h o.2 := by
  exact moX15_guessesAll_106 mk_21 mk_50 hE
set_option maxRecDepth 20000 in
theorem moX15_guessesAll_94 {o : Int32 × Hp} {k_21 : Hp → Nat → Nat → Int32 → Int32 → Int32 → Int32 → Option (Int32 × Hp)} {k_50 : Hp → Nat → Nat → Int32 → Int32 → Int32 → Int32 → Int32 → Int32 → Option (Int32 × Hp)} {F : Nat} (mk_21 : ∀ (h : Hp) (x0 : Nat) (x1 : Nat) (x2 : Int32) (x3 : Int32) (x4 : Int32) (x5 : Int32), k_21 h x0 x1 x2 x3 x4 x5 = some o → Le h o.2) (mk_50 : ∀ (h : Hp) (x0 : Nat) (x1 : Nat) (x2 : Int32) (x3 : Int32) (x4 : Int32) (x5 : Int32) (x6 : Int32) (x7 : Int32), k_50 h x0 x1 x2 x3 x4 x5 x6 x7 = some o → Le h o.2) {h : Hp} {x0 : Nat} {x1 : Nat} {x2 : Int32} {x3 : Int32} {x4 : Int32} {x5 : Int32} {x7 : Int32} {t0 : Int32} {t1 : Int32} (hE : sX15_guessesAll_94 F k_21 k_50 h x0 x1 x2 x3 x4 x5 x7 t0 t1 = some o) : Le h o.2 := by
  rcases br_e hE with ⟨_, hE⟩ | ⟨_, hE⟩
  · exact moX15_guessesAll_106 mk_21 mk_50 hE
  · exact moX15_guessesAll_105 mk_21 mk_50 hE
set_option maxRecDepth 20000 in
theorem moX15_guessesAll_50 {o : Int32 × Hp} {k_21 : Hp → Nat → Nat → Int32 → Int32 → Int32 → Int32 → Option (Int32 × Hp)} {F : Nat} (mk_21 : ∀ (h : Hp) (x0 : Nat) (x1 : Nat) (x2 : Int32) (x3 : Int32) (x4 : Int32) (x5 : Int32), k_21 h x0 x1 x2 x3 x4 x5 = some o → Le h o.2) : ∀ (f : Nat) {h : Hp} {x0 : Nat} {x1 : Nat} {x2 : Int32} {x3 : Int32} {x4 : Int32} {x5 : Int32} {x6 : Int32} {x7 : Int32}, sX15_guessesAll_50 F k_21 f h x0 x1 x2 x3 x4 x5 x6 x7 = some o → Le h o.2 := by
  intro f
  induction f with
  | zero =>
    intro h x0 x1 x2 x3 x4 x5 x6 x7 hE
    rw [sX15_guessesAll_50] at hE
    cases hE
  | succ f ih =>
    intro h x0 x1 x2 x3 x4 x5 x6 x7 hE
    rw [sX15_guessesAll_50] at hE
    have mk_50 : ∀ (h : Hp) (x0 : Nat) (x1 : Nat) (x2 : Int32) (x3 : Int32) (x4 : Int32) (x5 : Int32) (x6 : Int32) (x7 : Int32), sX15_guessesAll_50 F k_21 f h x0 x1 x2 x3 x4 x5 x6 x7 = some o → Le h o.2 := fun h x0 x1 x2 x3 x4 x5 x6 x7 hE => ih hE
    obtain ⟨r_1, er_1, hE⟩ := cl_e hE
    obtain ⟨r_2, er_2, hE⟩ := cl_e hE
    obtain ⟨g_3, hE⟩ := gd_e hE
    rcases br_e hE with ⟨_, hE⟩ | ⟨_, hE⟩
    · exact moX15_guessesAll_118 mk_21 _ hE
    · obtain ⟨r_5, er_5, hE⟩ := cl_e hE
      obtain ⟨r_6, er_6, hE⟩ := cl_e hE
      obtain ⟨g_7, hE⟩ := gd_e hE
      rcases br_e hE with ⟨_, hE⟩ | ⟨_, hE⟩
      · obtain ⟨o_9, eo_9, hE⟩ := cl_e hE
        refine (moX15_rankFor eo_9).tr ?_
        exact moX15_guessesAll_94 mk_21 mk_50 hE
      · exact moX15_guessesAll_105 mk_21 mk_50 hE
set_option maxRecDepth 20000 in
theorem moX15_guessesAll_45 {o : Int32 × Hp} {k_21 : Hp → Nat → Nat → Int32 → Int32 → Int32 → Int32 → Option (Int32 × Hp)} {F : Nat} (mk_21 : ∀ (h : Hp) (x0 : Nat) (x1 : Nat) (x2 : Int32) (x3 : Int32) (x4 : Int32) (x5 : Int32), k_21 h x0 x1 x2 x3 x4 x5 = some o → Le h o.2) {h : Hp} {x0 : Nat} {x1 : Nat} {x2 : Int32} {x3 : Int32} {x4 : Int32} {x5 : Int32} {t0 : Int32} (hE : sX15_guessesAll_45 F k_21 h x0 x1 x2 x3 x4 x5 t0 = some o) : Le h o.2 := by
  exact moX15_guessesAll_50 mk_21 _ hE
set_option maxRecDepth 20000 in
theorem moX15_guessesAll_21 {o : Int32 × Hp} {F : Nat} : ∀ (f : Nat) {h : Hp} {x0 : Nat} {x1 : Nat} {x2 : Int32} {x3 : Int32} {x4 : Int32} {x5 : Int32}, sX15_guessesAll_21 F f h x0 x1 x2 x3 x4 x5 = some o → Le h o.2 := by
  intro f
  induction f with
  | zero =>
    intro h x0 x1 x2 x3 x4 x5 hE
    rw [sX15_guessesAll_21] at hE
    cases hE
  | succ f ih =>
    intro h x0 x1 x2 x3 x4 x5 hE
    rw [sX15_guessesAll_21] at hE
    have mk_21 : ∀ (h : Hp) (x0 : Nat) (x1 : Nat) (x2 : Int32) (x3 : Int32) (x4 : Int32) (x5 : Int32), sX15_guessesAll_21 F f h x0 x1 x2 x3 x4 x5 = some o → Le h o.2 := fun h x0 x1 x2 x3 x4 x5 hE => ih hE
    obtain ⟨r_1, er_1, hE⟩ := cl_e hE
    rcases br_e hE with ⟨_, hE⟩ | ⟨_, hE⟩
    · exact le_some2 hE
    · rcases br_e hE with ⟨_, hE⟩ | ⟨_, hE⟩
      · exact moX15_guessesAll_45 mk_21 hE
      · exact moX15_guessesAll_45 mk_21 hE
set_option maxRecDepth 20000 in
theorem moX15_guessesAll_16 {o : Int32 × Hp} {F : Nat} {h : Hp} {x0 : Nat} {x1 : Nat} {x2 : Int32} {x3 : Int32} {t0 : Int32} (hE : sX15_guessesAll_16 F h x0 x1 x2 x3 t0 = some o) : Le h o.2 := by
  exact moX15_guessesAll_21 _ hE
set_option maxRecDepth 20000 in
theorem moX15_guessesAll {o : Int32 × Hp} {F : Nat} {h : Hp} {x0 : Nat} {x1 : Nat} {x2 : Int32} (hE : sX15_guessesAll F h x0 x1 x2 = some o) : Le h o.2 := by
  obtain ⟨v_1, ev_1, hE⟩ := nm_e2 hE
  obtain ⟨r_2, er_2, hE⟩ := cl_e hE
  obtain ⟨g_3, hE⟩ := gd_e hE
  obtain ⟨o_4, eo_4, hE⟩ := cl_e hE
  refine (moX15_manOf eo_4).tr ?_
  exact moX15_guessesAll_16 hE
set_option maxRecDepth 20000 in
theorem bX15_guessesAll_163 {p : Program} {l : Launch} {e : Env} {s : State} {m : MethodId} {args : Array Value} {below : List Frame} {meth : Method} {c : Code} {X : Ec} {h0 : Hp} {o : Int32 × Hp} {k_21 : Hp → Nat → Nat → Int32 → Int32 → Int32 → Int32 → Option (Int32 × Hp)} {F : Nat} (C : Cx X p s m args meth c RX15 cX15_guessesAll 8 (some .boolean) "guessesAll") (hk_21 : ∀ (h : Hp) (x0 : Nat) (x1 : Nat) (x2 : Int32) (x3 : Int32) (x4 : Int32) (x5 : Int32) (H : Heap) (locs : List Loc), hK h x0 = 15 → hK h x1 = 12 → Kl h0 h → Wx X h H → va_S (aA (eB X)) s.heap H locs → ∀ (ls : Array Slot), lv_has ls 8 [(0, .ref x0), (1, .ref x1), (2, .int x2), (3, .int x3), (4, .int x4), (5, .int x5)] → k_21 h x0 x1 x2 x3 x4 x5 = some o → W p l e (rmA 19 398 h0 o.2) s m args below meth c H locs (hS h - hS h0) (hL h - hL h0) (MQ below (QIA X h0 o.1 o.2) args s (hS o.2 - hS h0) (hL o.2 - hL h0) (aA (eB X))) (F0 m 21 ls [])) (mk_21 : ∀ (h : Hp) (x0 : Nat) (x1 : Nat) (x2 : Int32) (x3 : Int32) (x4 : Int32) (x5 : Int32), k_21 h x0 x1 x2 x3 x4 x5 = some o → Le h o.2) {h : Hp} {x0 : Nat} {x1 : Nat} {x2 : Int32} {x3 : Int32} {x4 : Int32} {x5 : Int32} {H : Heap} {locs : List Loc} (k_x0 : hK h x0 = 15) (k_x1 : hK h x1 = 12) (hkl : Kl h0 h) (hW : Wx X h H) (hZ : va_S (aA (eB X)) s.heap H locs) (ls : Array Slot) (hl : lv_has ls 8 [(0, .ref x0), (1, .ref x1), (2, .int x2), (3, .int x3), (4, .int x4), (5, .int x5)]) (hE : sX15_guessesAll_163 F k_21 h x0 x1 x2 x3 x4 x5 = some o) : W p l e (rmA 19 398 h0 o.2) s m args below meth c H locs (hS h - hS h0) (hL h - hL h0) (MQ below (QIA X h0 o.1 o.2) args s (hS o.2 - hS h0) (hL o.2 - hL h0) (aA (eB X))) (F0 m 163 ls []) := by
  obtain ⟨v_1, ev_1, hE⟩ := nm_e2 hE
  refine lv_iinc (v := v_1) (lv' := [(5, .int v_1), (0, .ref x0), (1, .ref x1), (2, .int x2), (3, .int x3), (4, .int x4)]) C.1 C.2.1 dX15_guessesAll_163 hl (k := 5) rfl (by rw [ev_1]; rfl) (by decide) rfl (fun ls hl => ?_)
  refine lv_goto (tgt := 21) C.1 C.2.1 dX15_guessesAll_166 (by decide) ?_
  exact hk_21 _ _ _ _ _ _ _ _ _ k_x0 k_x1 hkl hW hZ _ (lv_sub hl [1, 2, 3, 4, 5, 0] rfl) hE
set_option maxRecDepth 20000 in
theorem bX15_guessesAll_157 {p : Program} {l : Launch} {e : Env} {s : State} {m : MethodId} {args : Array Value} {below : List Frame} {meth : Method} {c : Code} {X : Ec} {h0 : Hp} {o : Int32 × Hp} {k_21 : Hp → Nat → Nat → Int32 → Int32 → Int32 → Int32 → Option (Int32 × Hp)} {k_118 : Hp → Nat → Nat → Int32 → Int32 → Int32 → Int32 → Int32 → Int32 → Option (Int32 × Hp)} {F : Nat} (C : Cx X p s m args meth c RX15 cX15_guessesAll 8 (some .boolean) "guessesAll") (hk_21 : ∀ (h : Hp) (x0 : Nat) (x1 : Nat) (x2 : Int32) (x3 : Int32) (x4 : Int32) (x5 : Int32) (H : Heap) (locs : List Loc), hK h x0 = 15 → hK h x1 = 12 → Kl h0 h → Wx X h H → va_S (aA (eB X)) s.heap H locs → ∀ (ls : Array Slot), lv_has ls 8 [(0, .ref x0), (1, .ref x1), (2, .int x2), (3, .int x3), (4, .int x4), (5, .int x5)] → k_21 h x0 x1 x2 x3 x4 x5 = some o → W p l e (rmA 19 398 h0 o.2) s m args below meth c H locs (hS h - hS h0) (hL h - hL h0) (MQ below (QIA X h0 o.1 o.2) args s (hS o.2 - hS h0) (hL o.2 - hL h0) (aA (eB X))) (F0 m 21 ls [])) (hk_118 : ∀ (h : Hp) (x0 : Nat) (x1 : Nat) (x2 : Int32) (x3 : Int32) (x4 : Int32) (x5 : Int32) (x6 : Int32) (x7 : Int32) (H : Heap) (locs : List Loc), hK h x0 = 15 → hK h x1 = 12 → Kl h0 h → Wx X h H → va_S (aA (eB X)) s.heap H locs → ∀ (ls : Array Slot), lv_has ls 8 [(0, .ref x0), (1, .ref x1), (2, .int x2), (3, .int x3), (4, .int x4), (5, .int x5), (6, .int x6), (7, .int x7)] → k_118 h x0 x1 x2 x3 x4 x5 x6 x7 = some o → W p l e (rmA 19 398 h0 o.2) s m args below meth c H locs (hS h - hS h0) (hL h - hL h0) (MQ below (QIA X h0 o.1 o.2) args s (hS o.2 - hS h0) (hL o.2 - hL h0) (aA (eB X))) (F0 m 118 ls [])) (mk_21 : ∀ (h : Hp) (x0 : Nat) (x1 : Nat) (x2 : Int32) (x3 : Int32) (x4 : Int32) (x5 : Int32), k_21 h x0 x1 x2 x3 x4 x5 = some o → Le h o.2) (mk_118 : ∀ (h : Hp) (x0 : Nat) (x1 : Nat) (x2 : Int32) (x3 : Int32) (x4 : Int32) (x5 : Int32) (x6 : Int32) (x7 : Int32), k_118 h x0 x1 x2 x3 x4 x5 x6 x7 = some o → Le h o.2) {h : Hp} {x0 : Nat} {x1 : Nat} {x2 : Int32} {x3 : Int32} {x4 : Int32} {x5 : Int32} {x6 : Int32} {x7 : Int32} {H : Heap} {locs : List Loc} (k_x0 : hK h x0 = 15) (k_x1 : hK h x1 = 12) (hkl : Kl h0 h) (hW : Wx X h H) (hZ : va_S (aA (eB X)) s.heap H locs) (ls : Array Slot) (hl : lv_has ls 8 [(0, .ref x0), (1, .ref x1), (2, .int x2), (3, .int x3), (4, .int x4), (5, .int x5), (6, .int x6), (7, .int x7)]) (hE : sX15_guessesAll_157 F k_21 k_118 h x0 x1 x2 x3 x4 x5 x6 x7 = some o) : W p l e (rmA 19 398 h0 o.2) s m args below meth c H locs (hS h - hS h0) (hL h - hL h0) (MQ below (QIA X h0 o.1 o.2) args s (hS o.2 - hS h0) (hL o.2 - hL h0) (aA (eB X))) (F0 m 157 ls []) := by
  obtain ⟨v_1, ev_1, hE⟩ := nm_e2 hE
  refine lv_iinc (v := v_1) (lv' := [(7, .int v_1), (0, .ref x0), (1, .ref x1), (2, .int x2), (3, .int x3), (4, .int x4), (5, .int x5), (6, .int x6)]) C.1 C.2.1 dX15_guessesAll_157 hl (k := 7) rfl (by rw [ev_1]; rfl) (by decide) rfl (fun ls hl => ?_)
  refine lv_goto (tgt := 118) C.1 C.2.1 dX15_guessesAll_160 (by decide) ?_
  exact hk_118 _ _ _ _ _ _ _ _ _ _ _ k_x0 k_x1 hkl hW hZ _ (lv_sub hl [1, 2, 3, 4, 5, 6, 7, 0] rfl) hE
set_option maxRecDepth 20000 in
theorem bX15_guessesAll_152 {p : Program} {l : Launch} {e : Env} {s : State} {m : MethodId} {args : Array Value} {below : List Frame} {meth : Method} {c : Code} {X : Ec} {h0 : Hp} {o : Int32 × Hp} {k_21 : Hp → Nat → Nat → Int32 → Int32 → Int32 → Int32 → Option (Int32 × Hp)} {k_118 : Hp → Nat → Nat → Int32 → Int32 → Int32 → Int32 → Int32 → Int32 → Option (Int32 × Hp)} {F : Nat} (C : Cx X p s m args meth c RX15 cX15_guessesAll 8 (some .boolean) "guessesAll") (hk_21 : ∀ (h : Hp) (x0 : Nat) (x1 : Nat) (x2 : Int32) (x3 : Int32) (x4 : Int32) (x5 : Int32) (H : Heap) (locs : List Loc), hK h x0 = 15 → hK h x1 = 12 → Kl h0 h → Wx X h H → va_S (aA (eB X)) s.heap H locs → ∀ (ls : Array Slot), lv_has ls 8 [(0, .ref x0), (1, .ref x1), (2, .int x2), (3, .int x3), (4, .int x4), (5, .int x5)] → k_21 h x0 x1 x2 x3 x4 x5 = some o → W p l e (rmA 19 398 h0 o.2) s m args below meth c H locs (hS h - hS h0) (hL h - hL h0) (MQ below (QIA X h0 o.1 o.2) args s (hS o.2 - hS h0) (hL o.2 - hL h0) (aA (eB X))) (F0 m 21 ls [])) (hk_118 : ∀ (h : Hp) (x0 : Nat) (x1 : Nat) (x2 : Int32) (x3 : Int32) (x4 : Int32) (x5 : Int32) (x6 : Int32) (x7 : Int32) (H : Heap) (locs : List Loc), hK h x0 = 15 → hK h x1 = 12 → Kl h0 h → Wx X h H → va_S (aA (eB X)) s.heap H locs → ∀ (ls : Array Slot), lv_has ls 8 [(0, .ref x0), (1, .ref x1), (2, .int x2), (3, .int x3), (4, .int x4), (5, .int x5), (6, .int x6), (7, .int x7)] → k_118 h x0 x1 x2 x3 x4 x5 x6 x7 = some o → W p l e (rmA 19 398 h0 o.2) s m args below meth c H locs (hS h - hS h0) (hL h - hL h0) (MQ below (QIA X h0 o.1 o.2) args s (hS o.2 - hS h0) (hL o.2 - hL h0) (aA (eB X))) (F0 m 118 ls [])) (mk_21 : ∀ (h : Hp) (x0 : Nat) (x1 : Nat) (x2 : Int32) (x3 : Int32) (x4 : Int32) (x5 : Int32), k_21 h x0 x1 x2 x3 x4 x5 = some o → Le h o.2) (mk_118 : ∀ (h : Hp) (x0 : Nat) (x1 : Nat) (x2 : Int32) (x3 : Int32) (x4 : Int32) (x5 : Int32) (x6 : Int32) (x7 : Int32), k_118 h x0 x1 x2 x3 x4 x5 x6 x7 = some o → Le h o.2) {h : Hp} {x0 : Nat} {x1 : Nat} {x2 : Int32} {x3 : Int32} {x4 : Int32} {x5 : Int32} {x6 : Int32} {x7 : Int32} {t0 : Int32} {H : Heap} {locs : List Loc} (k_x0 : hK h x0 = 15) (k_x1 : hK h x1 = 12) (hkl : Kl h0 h) (hW : Wx X h H) (hZ : va_S (aA (eB X)) s.heap H locs) (ls : Array Slot) (hl : lv_has ls 8 [(0, .ref x0), (1, .ref x1), (2, .int x2), (3, .int x3), (4, .int x4), (5, .int x5), (6, .int x6), (7, .int x7)]) (hE : sX15_guessesAll_152 F k_21 k_118 h x0 x1 x2 x3 x4 x5 x6 x7 t0 = some o) : W p l e (rmA 19 398 h0 o.2) s m args below meth c H locs (hS h - hS h0) (hL h - hL h0) (MQ below (QIA X h0 o.1 o.2) args s (hS o.2 - hS h0) (hL o.2 - hL h0) (aA (eB X))) (F0 m 152 ls [.int t0]) := by
  refine lv_if_ne (tgt := 157) C.1 C.2.1 dX15_guessesAll_152 (by decide) (fun c_1 => ?_) (fun c_1 => ?_)
  · have hE := br_n hE c_1
    exact bX15_guessesAll_157 C hk_21 hk_118 mk_21 mk_118 k_x0 k_x1 hkl hW hZ _ (lv_sub hl [0, 1, 2, 3, 4, 5, 6, 7] rfl) hE
  · have hE := br_p hE c_1
    refine lv_iconst (v := (0 : Int32)) C.1 C.2.1 dX15_guessesAll_155 (by decide) ?_
    exact x_iretA C rfl (by decide) hW hZ hkl hE dX15_guessesAll_156
set_option maxRecDepth 20000 in
theorem bX15_guessesAll_118 {p : Program} {l : Launch} {e : Env} {s : State} {m : MethodId} {args : Array Value} {below : List Frame} {meth : Method} {c : Code} {X : Ec} {h0 : Hp} {o : Int32 × Hp} {k_21 : Hp → Nat → Nat → Int32 → Int32 → Int32 → Int32 → Option (Int32 × Hp)} {F : Nat} (C : Cx X p s m args meth c RX15 cX15_guessesAll 8 (some .boolean) "guessesAll") (hk_21 : ∀ (h : Hp) (x0 : Nat) (x1 : Nat) (x2 : Int32) (x3 : Int32) (x4 : Int32) (x5 : Int32) (H : Heap) (locs : List Loc), hK h x0 = 15 → hK h x1 = 12 → Kl h0 h → Wx X h H → va_S (aA (eB X)) s.heap H locs → ∀ (ls : Array Slot), lv_has ls 8 [(0, .ref x0), (1, .ref x1), (2, .int x2), (3, .int x3), (4, .int x4), (5, .int x5)] → k_21 h x0 x1 x2 x3 x4 x5 = some o → W p l e (rmA 19 398 h0 o.2) s m args below meth c H locs (hS h - hS h0) (hL h - hL h0) (MQ below (QIA X h0 o.1 o.2) args s (hS o.2 - hS h0) (hL o.2 - hL h0) (aA (eB X))) (F0 m 21 ls [])) (mk_21 : ∀ (h : Hp) (x0 : Nat) (x1 : Nat) (x2 : Int32) (x3 : Int32) (x4 : Int32) (x5 : Int32), k_21 h x0 x1 x2 x3 x4 x5 = some o → Le h o.2) : ∀ (f : Nat) {h : Hp} {x0 : Nat} {x1 : Nat} {x2 : Int32} {x3 : Int32} {x4 : Int32} {x5 : Int32} {x6 : Int32} {x7 : Int32} {H : Heap} {locs : List Loc} (k_x0 : hK h x0 = 15) (k_x1 : hK h x1 = 12), Kl h0 h → Wx X h H → va_S (aA (eB X)) s.heap H locs → ∀ (ls : Array Slot), lv_has ls 8 [(0, .ref x0), (1, .ref x1), (2, .int x2), (3, .int x3), (4, .int x4), (5, .int x5), (6, .int x6), (7, .int x7)] → sX15_guessesAll_118 F k_21 f h x0 x1 x2 x3 x4 x5 x6 x7 = some o → W p l e (rmA 19 398 h0 o.2) s m args below meth c H locs (hS h - hS h0) (hL h - hL h0) (MQ below (QIA X h0 o.1 o.2) args s (hS o.2 - hS h0) (hL o.2 - hL h0) (aA (eB X))) (F0 m 118 ls []) := by
  intro f
  induction f with
  | zero =>
    intro h x0 x1 x2 x3 x4 x5 x6 x7 H locs k_x0 k_x1 hkl hW hZ ls hl hE
    rw [sX15_guessesAll_118] at hE
    cases hE
  | succ f ih =>
    intro h x0 x1 x2 x3 x4 x5 x6 x7 H locs k_x0 k_x1 hkl hW hZ ls hl hE
    rw [sX15_guessesAll_118] at hE
    have mk_118 : ∀ (h : Hp) (x0 : Nat) (x1 : Nat) (x2 : Int32) (x3 : Int32) (x4 : Int32) (x5 : Int32) (x6 : Int32) (x7 : Int32), sX15_guessesAll_118 F k_21 f h x0 x1 x2 x3 x4 x5 x6 x7 = some o → Le h o.2 := fun h x0 x1 x2 x3 x4 x5 x6 x7 hE => moX15_guessesAll_118 mk_21 _ hE
    have hk_118 : ∀ (h : Hp) (x0 : Nat) (x1 : Nat) (x2 : Int32) (x3 : Int32) (x4 : Int32) (x5 : Int32) (x6 : Int32) (x7 : Int32) (H : Heap) (locs : List Loc), hK h x0 = 15 → hK h x1 = 12 → Kl h0 h → Wx X h H → va_S (aA (eB X)) s.heap H locs → ∀ (ls : Array Slot), lv_has ls 8 [(0, .ref x0), (1, .ref x1), (2, .int x2), (3, .int x3), (4, .int x4), (5, .int x5), (6, .int x6), (7, .int x7)] → sX15_guessesAll_118 F k_21 f h x0 x1 x2 x3 x4 x5 x6 x7 = some o → W p l e (rmA 19 398 h0 o.2) s m args below meth c H locs (hS h - hS h0) (hL h - hL h0) (MQ below (QIA X h0 o.1 o.2) args s (hS o.2 - hS h0) (hL o.2 - hL h0) (aA (eB X))) (F0 m 118 ls []) := fun h x0 x1 x2 x3 x4 x5 x6 x7 H locs k_x0 k_x1 a b c ls hl hE => ih k_x0 k_x1 a b c ls hl hE
    refine lv_iload C.1 C.2.1 dX15_guessesAll_118 (lv_at hl 7 rfl) ?_
    refine lv_aload_n C.1 C.2.1 dX15_guessesAll_120 rfl (lv_at hl 0 rfl) ?_
    refine gf_X15_384 C hW k_x0 dX15_guessesAll_121 ?_
    refine lv_icmp_ge (tgt := 163) C.1 C.2.1 dX15_guessesAll_124 (by decide) (fun c_1 => ?_) (fun c_1 => ?_)
    · have hE := br_p hE c_1
      exact bX15_guessesAll_163 C hk_21 mk_21 k_x0 k_x1 hkl hW hZ _ (lv_sub hl [0, 1, 2, 3, 4, 5] rfl) hE
    · have hE := br_n hE c_1
      refine lv_iload C.1 C.2.1 dX15_guessesAll_127 (lv_at hl 6 rfl) ?_
      refine lv_if_eq (tgt := 163) C.1 C.2.1 dX15_guessesAll_129 (by decide) (fun c_2 => ?_) (fun c_2 => ?_)
      · have hE := br_p hE c_2
        exact bX15_guessesAll_163 C hk_21 mk_21 k_x0 k_x1 hkl hW hZ _ (lv_sub hl [0, 1, 2, 3, 4, 5] rfl) hE
      · have hE := br_n hE c_2
        refine lv_aload_n C.1 C.2.1 dX15_guessesAll_132 rfl (lv_at hl 1 rfl) ?_
        obtain ⟨r_3, er_3, hE⟩ := cl_e hE
        refine gf_X15_396 C hW k_x1 er_3 dX15_guessesAll_133 (fun k_r_3 => ?_)
        refine lv_iload C.1 C.2.1 dX15_guessesAll_136 (lv_at hl 7 rfl) ?_
        obtain ⟨g_4, hE⟩ := gd_e hE
        refine y_iald C hW k_r_3 g_4 dX15_guessesAll_138 ?_
        refine lv_if_ne (tgt := 157) C.1 C.2.1 dX15_guessesAll_139 (by decide) (fun c_5 => ?_) (fun c_5 => ?_)
        · have hE := br_n hE c_5
          exact bX15_guessesAll_157 C hk_21 hk_118 mk_21 mk_118 k_x0 k_x1 hkl hW hZ _ (lv_sub hl [0, 1, 2, 3, 4, 5, 6, 7] rfl) hE
        · have hE := br_p hE c_5
          refine lv_aload_n C.1 C.2.1 dX15_guessesAll_142 rfl (lv_at hl 0 rfl) ?_
          refine lv_aload_n C.1 C.2.1 dX15_guessesAll_143 rfl (lv_at hl 1 rfl) ?_
          refine lv_iload_n C.1 C.2.1 dX15_guessesAll_144 rfl (lv_at hl 2 rfl) ?_
          refine lv_iload C.1 C.2.1 dX15_guessesAll_145 (lv_at hl 7 rfl) ?_
          refine lv_iload C.1 C.2.1 dX15_guessesAll_147 (lv_at hl 5 rfl) ?_
          obtain ⟨o_6, eo_6, hE⟩ := cl_e hE
          have m1 := moX15_guesses eo_6
          have m2 := moX15_guessesAll_152 mk_21 mk_118 hE
          refine x_kIA (o := o_6) hkl (z_runV (As := [.ref x1, .int x2, .int x7, .int x5]) (rest := []) C (ct_X15_guesses l X F k_x0 k_x1 eo_6) cw_X15_727 hW hZ k_x0 (by decide) rfl rfl rfl hl.1 (Nat.le_of_ble_eq_true rfl) rfl dX15_guessesAll_149 ⟨Nat.le_of_ble_eq_true rfl, Nat.le_of_ble_eq_true rfl⟩ (rm_ok hkl m1 m2)) hZ (fun _ _ hW km hZ => ?_)
          replace hkl := hkl.tr km
          replace k_x0 := km.at k_x0 (by decide)
          replace k_x1 := km.at k_x1 (by decide)
          exact bX15_guessesAll_152 C hk_21 hk_118 mk_21 mk_118 k_x0 k_x1 hkl hW hZ _ (lv_sub hl [0, 1, 2, 3, 4, 5, 6, 7] rfl) hE
set_option maxRecDepth 20000 in
theorem bX15_guessesAll_106 {p : Program} {l : Launch} {e : Env} {s : State} {m : MethodId} {args : Array Value} {below : List Frame} {meth : Method} {c : Code} {X : Ec} {h0 : Hp} {o : Int32 × Hp} {k_21 : Hp → Nat → Nat → Int32 → Int32 → Int32 → Int32 → Option (Int32 × Hp)} {k_50 : Hp → Nat → Nat → Int32 → Int32 → Int32 → Int32 → Int32 → Int32 → Option (Int32 × Hp)} {F : Nat} (C : Cx X p s m args meth c RX15 cX15_guessesAll 8 (some .boolean) "guessesAll") (hk_21 : ∀ (h : Hp) (x0 : Nat) (x1 : Nat) (x2 : Int32) (x3 : Int32) (x4 : Int32) (x5 : Int32) (H : Heap) (locs : List Loc), hK h x0 = 15 → hK h x1 = 12 → Kl h0 h → Wx X h H → va_S (aA (eB X)) s.heap H locs → ∀ (ls : Array Slot), lv_has ls 8 [(0, .ref x0), (1, .ref x1), (2, .int x2), (3, .int x3), (4, .int x4), (5, .int x5)] → k_21 h x0 x1 x2 x3 x4 x5 = some o → W p l e (rmA 19 398 h0 o.2) s m args below meth c H locs (hS h - hS h0) (hL h - hL h0) (MQ below (QIA X h0 o.1 o.2) args s (hS o.2 - hS h0) (hL o.2 - hL h0) (aA (eB X))) (F0 m 21 ls [])) (hk_50 : ∀ (h : Hp) (x0 : Nat) (x1 : Nat) (x2 : Int32) (x3 : Int32) (x4 : Int32) (x5 : Int32) (x6 : Int32) (x7 : Int32) (H : Heap) (locs : List Loc), hK h x0 = 15 → hK h x1 = 12 → Kl h0 h → Wx X h H → va_S (aA (eB X)) s.heap H locs → ∀ (ls : Array Slot), lv_has ls 8 [(0, .ref x0), (1, .ref x1), (2, .int x2), (3, .int x3), (4, .int x4), (5, .int x5), (6, .int x6), (7, .int x7)] → k_50 h x0 x1 x2 x3 x4 x5 x6 x7 = some o → W p l e (rmA 19 398 h0 o.2) s m args below meth c H locs (hS h - hS h0) (hL h - hL h0) (MQ below (QIA X h0 o.1 o.2) args s (hS o.2 - hS h0) (hL o.2 - hL h0) (aA (eB X))) (F0 m 50 ls [])) (mk_21 : ∀ (h : Hp) (x0 : Nat) (x1 : Nat) (x2 : Int32) (x3 : Int32) (x4 : Int32) (x5 : Int32), k_21 h x0 x1 x2 x3 x4 x5 = some o → Le h o.2) (mk_50 : ∀ (h : Hp) (x0 : Nat) (x1 : Nat) (x2 : Int32) (x3 : Int32) (x4 : Int32) (x5 : Int32) (x6 : Int32) (x7 : Int32), k_50 h x0 x1 x2 x3 x4 x5 x6 x7 = some o → Le h o.2) {h : Hp} {x0 : Nat} {x1 : Nat} {x2 : Int32} {x3 : Int32} {x4 : Int32} {x5 : Int32} {x7 : Int32} {t0 : Int32} {t1 : Int32} {H : Heap} {locs : List Loc} (k_x0 : hK h x0 = 15) (k_x1 : hK h x1 = 12) (hkl : Kl h0 h) (hW : Wx X h H) (hZ : va_S (aA (eB X)) s.heap H locs) (ls : Array Slot) (hl : lv_has ls 8 [(0, .ref x0), (1, .ref x1), (2, .int x2), (3, .int x3), (4, .int x4), (5, .int x5), (7, .int x7)]) (hE : sX15_guessesAll_106 F k_21 k_50 h x0 x1 x2 x3 x4 x5 x7 t0 t1 = some o) : W p l e (rmA 19 398 h0 o.2) s m args below meth c H locs (hS h - hS h0) (hL h - hL h0) (MQ below (QIA X h0 o.1 o.2) args s (hS o.2 - hS h0) (hL o.2 - hL h0) (aA (eB X))) (F0 m 106 ls [.int t0, .int t1]) := by
  refine lv_ior C.1 C.2.1 dX15_guessesAll_106 ?_
  obtain ⟨v_1, ev_1, hE⟩ := nm_e2 hE
  refine x_nmI ev_1 ?_
  refine lv_istore (lv' := [(6, .int v_1), (0, .ref x0), (1, .ref x1), (2, .int x2), (3, .int x3), (4, .int x4), (5, .int x5), (7, .int x7)]) C.1 C.2.1 dX15_guessesAll_107 hl (by decide) rfl (fun ls hl => ?_)
  obtain ⟨v_2, ev_2, hE⟩ := nm_e2 hE
  refine lv_iinc (v := v_2) (lv' := [(7, .int v_2), (6, .int v_1), (0, .ref x0), (1, .ref x1), (2, .int x2), (3, .int x3), (4, .int x4), (5, .int x5)]) C.1 C.2.1 dX15_guessesAll_109 hl (k := 7) rfl (by rw [ev_2]; rfl) (by decide) rfl (fun ls hl => ?_)
  refine lv_goto (tgt := 50) C.1 C.2.1 dX15_guessesAll_112 (by decide) ?_
  exact hk_50 _ _ _ _ _ _ _ _ _ _ _ k_x0 k_x1 hkl hW hZ _ (lv_sub hl [2, 3, 4, 5, 6, 7, 1, 0] rfl) hE
set_option maxRecDepth 20000 in
theorem bX15_guessesAll_105 {p : Program} {l : Launch} {e : Env} {s : State} {m : MethodId} {args : Array Value} {below : List Frame} {meth : Method} {c : Code} {X : Ec} {h0 : Hp} {o : Int32 × Hp} {k_21 : Hp → Nat → Nat → Int32 → Int32 → Int32 → Int32 → Option (Int32 × Hp)} {k_50 : Hp → Nat → Nat → Int32 → Int32 → Int32 → Int32 → Int32 → Int32 → Option (Int32 × Hp)} {F : Nat} (C : Cx X p s m args meth c RX15 cX15_guessesAll 8 (some .boolean) "guessesAll") (hk_21 : ∀ (h : Hp) (x0 : Nat) (x1 : Nat) (x2 : Int32) (x3 : Int32) (x4 : Int32) (x5 : Int32) (H : Heap) (locs : List Loc), hK h x0 = 15 → hK h x1 = 12 → Kl h0 h → Wx X h H → va_S (aA (eB X)) s.heap H locs → ∀ (ls : Array Slot), lv_has ls 8 [(0, .ref x0), (1, .ref x1), (2, .int x2), (3, .int x3), (4, .int x4), (5, .int x5)] → k_21 h x0 x1 x2 x3 x4 x5 = some o → W p l e (rmA 19 398 h0 o.2) s m args below meth c H locs (hS h - hS h0) (hL h - hL h0) (MQ below (QIA X h0 o.1 o.2) args s (hS o.2 - hS h0) (hL o.2 - hL h0) (aA (eB X))) (F0 m 21 ls [])) (hk_50 : ∀ (h : Hp) (x0 : Nat) (x1 : Nat) (x2 : Int32) (x3 : Int32) (x4 : Int32) (x5 : Int32) (x6 : Int32) (x7 : Int32) (H : Heap) (locs : List Loc), hK h x0 = 15 → hK h x1 = 12 → Kl h0 h → Wx X h H → va_S (aA (eB X)) s.heap H locs → ∀ (ls : Array Slot), lv_has ls 8 [(0, .ref x0), (1, .ref x1), (2, .int x2), (3, .int x3), (4, .int x4), (5, .int x5), (6, .int x6), (7, .int x7)] → k_50 h x0 x1 x2 x3 x4 x5 x6 x7 = some o → W p l e (rmA 19 398 h0 o.2) s m args below meth c H locs (hS h - hS h0) (hL h - hL h0) (MQ below (QIA X h0 o.1 o.2) args s (hS o.2 - hS h0) (hL o.2 - hL h0) (aA (eB X))) (F0 m 50 ls [])) (mk_21 : ∀ (h : Hp) (x0 : Nat) (x1 : Nat) (x2 : Int32) (x3 : Int32) (x4 : Int32) (x5 : Int32), k_21 h x0 x1 x2 x3 x4 x5 = some o → Le h o.2) (mk_50 : ∀ (h : Hp) (x0 : Nat) (x1 : Nat) (x2 : Int32) (x3 : Int32) (x4 : Int32) (x5 : Int32) (x6 : Int32) (x7 : Int32), k_50 h x0 x1 x2 x3 x4 x5 x6 x7 = some o → Le h o.2) {h : Hp} {x0 : Nat} {x1 : Nat} {x2 : Int32} {x3 : Int32} {x4 : Int32} {x5 : Int32} {x7 : Int32} {t0 : Int32} {H : Heap} {locs : List Loc} (k_x0 : hK h x0 = 15) (k_x1 : hK h x1 = 12) (hkl : Kl h0 h) (hW : Wx X h H) (hZ : va_S (aA (eB X)) s.heap H locs) (ls : Array Slot) (hl : lv_has ls 8 [(0, .ref x0), (1, .ref x1), (2, .int x2), (3, .int x3), (4, .int x4), (5, .int x5), (7, .int x7)]) (hE : sX15_guessesAll_105 F k_21 k_50 h x0 x1 x2 x3 x4 x5 x7 t0 = some o) : W p l e (rmA 19 398 h0 o.2) s m args below meth c H locs (hS h - hS h0) (hL h - hL h0) (MQ below (QIA X h0 o.1 o.2) args s (hS o.2 - hS h0) (hL o.2 - hL h0) (aA (eB X))) (F0 m 105 ls [.int t0]) := by
  refine lv_iconst (v := (0 : Int32)) C.1 C.2.1 dX15_guessesAll_105 (by decide) ?_
  exact bX15_guessesAll_106 C hk_21 hk_50 mk_21 mk_50 k_x0 k_x1 hkl hW hZ _ (lv_sub hl [0, 1, 2, 3, 4, 5, 6] rfl) hE
set_option maxRecDepth 20000 in
theorem bX15_guessesAll_94 {p : Program} {l : Launch} {e : Env} {s : State} {m : MethodId} {args : Array Value} {below : List Frame} {meth : Method} {c : Code} {X : Ec} {h0 : Hp} {o : Int32 × Hp} {k_21 : Hp → Nat → Nat → Int32 → Int32 → Int32 → Int32 → Option (Int32 × Hp)} {k_50 : Hp → Nat → Nat → Int32 → Int32 → Int32 → Int32 → Int32 → Int32 → Option (Int32 × Hp)} {F : Nat} (C : Cx X p s m args meth c RX15 cX15_guessesAll 8 (some .boolean) "guessesAll") (hk_21 : ∀ (h : Hp) (x0 : Nat) (x1 : Nat) (x2 : Int32) (x3 : Int32) (x4 : Int32) (x5 : Int32) (H : Heap) (locs : List Loc), hK h x0 = 15 → hK h x1 = 12 → Kl h0 h → Wx X h H → va_S (aA (eB X)) s.heap H locs → ∀ (ls : Array Slot), lv_has ls 8 [(0, .ref x0), (1, .ref x1), (2, .int x2), (3, .int x3), (4, .int x4), (5, .int x5)] → k_21 h x0 x1 x2 x3 x4 x5 = some o → W p l e (rmA 19 398 h0 o.2) s m args below meth c H locs (hS h - hS h0) (hL h - hL h0) (MQ below (QIA X h0 o.1 o.2) args s (hS o.2 - hS h0) (hL o.2 - hL h0) (aA (eB X))) (F0 m 21 ls [])) (hk_50 : ∀ (h : Hp) (x0 : Nat) (x1 : Nat) (x2 : Int32) (x3 : Int32) (x4 : Int32) (x5 : Int32) (x6 : Int32) (x7 : Int32) (H : Heap) (locs : List Loc), hK h x0 = 15 → hK h x1 = 12 → Kl h0 h → Wx X h H → va_S (aA (eB X)) s.heap H locs → ∀ (ls : Array Slot), lv_has ls 8 [(0, .ref x0), (1, .ref x1), (2, .int x2), (3, .int x3), (4, .int x4), (5, .int x5), (6, .int x6), (7, .int x7)] → k_50 h x0 x1 x2 x3 x4 x5 x6 x7 = some o → W p l e (rmA 19 398 h0 o.2) s m args below meth c H locs (hS h - hS h0) (hL h - hL h0) (MQ below (QIA X h0 o.1 o.2) args s (hS o.2 - hS h0) (hL o.2 - hL h0) (aA (eB X))) (F0 m 50 ls [])) (mk_21 : ∀ (h : Hp) (x0 : Nat) (x1 : Nat) (x2 : Int32) (x3 : Int32) (x4 : Int32) (x5 : Int32), k_21 h x0 x1 x2 x3 x4 x5 = some o → Le h o.2) (mk_50 : ∀ (h : Hp) (x0 : Nat) (x1 : Nat) (x2 : Int32) (x3 : Int32) (x4 : Int32) (x5 : Int32) (x6 : Int32) (x7 : Int32), k_50 h x0 x1 x2 x3 x4 x5 x6 x7 = some o → Le h o.2) {h : Hp} {x0 : Nat} {x1 : Nat} {x2 : Int32} {x3 : Int32} {x4 : Int32} {x5 : Int32} {x7 : Int32} {t0 : Int32} {t1 : Int32} {H : Heap} {locs : List Loc} (k_x0 : hK h x0 = 15) (k_x1 : hK h x1 = 12) (hkl : Kl h0 h) (hW : Wx X h H) (hZ : va_S (aA (eB X)) s.heap H locs) (ls : Array Slot) (hl : lv_has ls 8 [(0, .ref x0), (1, .ref x1), (2, .int x2), (3, .int x3), (4, .int x4), (5, .int x5), (7, .int x7)]) (hE : sX15_guessesAll_94 F k_21 k_50 h x0 x1 x2 x3 x4 x5 x7 t0 t1 = some o) : W p l e (rmA 19 398 h0 o.2) s m args below meth c H locs (hS h - hS h0) (hL h - hL h0) (MQ below (QIA X h0 o.1 o.2) args s (hS o.2 - hS h0) (hL o.2 - hL h0) (aA (eB X))) (F0 m 94 ls [.int t0, .int t1]) := by
  refine lv_aload_n C.1 C.2.1 dX15_guessesAll_94 rfl (lv_at hl 0 rfl) ?_
  refine gf_X15_383 C hW k_x0 dX15_guessesAll_95 ?_
  refine lv_icmp_ne (tgt := 105) C.1 C.2.1 dX15_guessesAll_98 (by decide) (fun c_1 => ?_) (fun c_1 => ?_)
  · have hE := br_n hE c_1
    exact bX15_guessesAll_105 C hk_21 hk_50 mk_21 mk_50 k_x0 k_x1 hkl hW hZ _ (lv_sub hl [0, 1, 2, 3, 4, 5, 6] rfl) hE
  · have hE := br_p hE c_1
    refine lv_iconst (v := (1 : Int32)) C.1 C.2.1 dX15_guessesAll_101 (by decide) ?_
    refine lv_goto (tgt := 106) C.1 C.2.1 dX15_guessesAll_102 (by decide) ?_
    exact bX15_guessesAll_106 C hk_21 hk_50 mk_21 mk_50 k_x0 k_x1 hkl hW hZ _ (lv_sub hl [0, 1, 2, 3, 4, 5, 6] rfl) hE
set_option maxRecDepth 20000 in
theorem bX15_guessesAll_50 {p : Program} {l : Launch} {e : Env} {s : State} {m : MethodId} {args : Array Value} {below : List Frame} {meth : Method} {c : Code} {X : Ec} {h0 : Hp} {o : Int32 × Hp} {k_21 : Hp → Nat → Nat → Int32 → Int32 → Int32 → Int32 → Option (Int32 × Hp)} {F : Nat} (C : Cx X p s m args meth c RX15 cX15_guessesAll 8 (some .boolean) "guessesAll") (hk_21 : ∀ (h : Hp) (x0 : Nat) (x1 : Nat) (x2 : Int32) (x3 : Int32) (x4 : Int32) (x5 : Int32) (H : Heap) (locs : List Loc), hK h x0 = 15 → hK h x1 = 12 → Kl h0 h → Wx X h H → va_S (aA (eB X)) s.heap H locs → ∀ (ls : Array Slot), lv_has ls 8 [(0, .ref x0), (1, .ref x1), (2, .int x2), (3, .int x3), (4, .int x4), (5, .int x5)] → k_21 h x0 x1 x2 x3 x4 x5 = some o → W p l e (rmA 19 398 h0 o.2) s m args below meth c H locs (hS h - hS h0) (hL h - hL h0) (MQ below (QIA X h0 o.1 o.2) args s (hS o.2 - hS h0) (hL o.2 - hL h0) (aA (eB X))) (F0 m 21 ls [])) (mk_21 : ∀ (h : Hp) (x0 : Nat) (x1 : Nat) (x2 : Int32) (x3 : Int32) (x4 : Int32) (x5 : Int32), k_21 h x0 x1 x2 x3 x4 x5 = some o → Le h o.2) : ∀ (f : Nat) {h : Hp} {x0 : Nat} {x1 : Nat} {x2 : Int32} {x3 : Int32} {x4 : Int32} {x5 : Int32} {x6 : Int32} {x7 : Int32} {H : Heap} {locs : List Loc} (k_x0 : hK h x0 = 15) (k_x1 : hK h x1 = 12), Kl h0 h → Wx X h H → va_S (aA (eB X)) s.heap H locs → ∀ (ls : Array Slot), lv_has ls 8 [(0, .ref x0), (1, .ref x1), (2, .int x2), (3, .int x3), (4, .int x4), (5, .int x5), (6, .int x6), (7, .int x7)] → sX15_guessesAll_50 F k_21 f h x0 x1 x2 x3 x4 x5 x6 x7 = some o → W p l e (rmA 19 398 h0 o.2) s m args below meth c H locs (hS h - hS h0) (hL h - hL h0) (MQ below (QIA X h0 o.1 o.2) args s (hS o.2 - hS h0) (hL o.2 - hL h0) (aA (eB X))) (F0 m 50 ls []) := by
  intro f
  induction f with
  | zero =>
    intro h x0 x1 x2 x3 x4 x5 x6 x7 H locs k_x0 k_x1 hkl hW hZ ls hl hE
    rw [sX15_guessesAll_50] at hE
    cases hE
  | succ f ih =>
    intro h x0 x1 x2 x3 x4 x5 x6 x7 H locs k_x0 k_x1 hkl hW hZ ls hl hE
    rw [sX15_guessesAll_50] at hE
    have mk_50 : ∀ (h : Hp) (x0 : Nat) (x1 : Nat) (x2 : Int32) (x3 : Int32) (x4 : Int32) (x5 : Int32) (x6 : Int32) (x7 : Int32), sX15_guessesAll_50 F k_21 f h x0 x1 x2 x3 x4 x5 x6 x7 = some o → Le h o.2 := fun h x0 x1 x2 x3 x4 x5 x6 x7 hE => moX15_guessesAll_50 mk_21 _ hE
    have hk_50 : ∀ (h : Hp) (x0 : Nat) (x1 : Nat) (x2 : Int32) (x3 : Int32) (x4 : Int32) (x5 : Int32) (x6 : Int32) (x7 : Int32) (H : Heap) (locs : List Loc), hK h x0 = 15 → hK h x1 = 12 → Kl h0 h → Wx X h H → va_S (aA (eB X)) s.heap H locs → ∀ (ls : Array Slot), lv_has ls 8 [(0, .ref x0), (1, .ref x1), (2, .int x2), (3, .int x3), (4, .int x4), (5, .int x5), (6, .int x6), (7, .int x7)] → sX15_guessesAll_50 F k_21 f h x0 x1 x2 x3 x4 x5 x6 x7 = some o → W p l e (rmA 19 398 h0 o.2) s m args below meth c H locs (hS h - hS h0) (hL h - hL h0) (MQ below (QIA X h0 o.1 o.2) args s (hS o.2 - hS h0) (hL o.2 - hL h0) (aA (eB X))) (F0 m 50 ls []) := fun h x0 x1 x2 x3 x4 x5 x6 x7 H locs k_x0 k_x1 a b c ls hl hE => ih k_x0 k_x1 a b c ls hl hE
    refine lv_iload C.1 C.2.1 dX15_guessesAll_50 (lv_at hl 7 rfl) ?_
    refine lv_aload_n C.1 C.2.1 dX15_guessesAll_52 rfl (lv_at hl 0 rfl) ?_
    obtain ⟨r_1, er_1, hE⟩ := cl_e hE
    refine gf_X15_252 C hW k_x0 er_1 dX15_guessesAll_53 (fun k_r_1 => ?_)
    obtain ⟨r_2, er_2, hE⟩ := cl_e hE
    refine gf_X15_215 C hW k_r_1 er_2 dX15_guessesAll_56 (fun k_r_2 => ?_)
    refine lv_iload C.1 C.2.1 dX15_guessesAll_59 (lv_at hl 5 rfl) ?_
    obtain ⟨g_3, hE⟩ := gd_e hE
    refine y_iald C hW k_r_2 g_3 dX15_guessesAll_61 ?_
    refine lv_icmp_ge (tgt := 115) C.1 C.2.1 dX15_guessesAll_62 (by decide) (fun c_4 => ?_) (fun c_4 => ?_)
    · have hE := br_p hE c_4
      refine lv_iconst (v := (0 : Int32)) C.1 C.2.1 dX15_guessesAll_115 (by decide) ?_
      refine lv_istore (lv' := [(7, .int (0 : Int32)), (0, .ref x0), (1, .ref x1), (2, .int x2), (3, .int x3), (4, .int x4), (5, .int x5), (6, .int x6)]) C.1 C.2.1 dX15_guessesAll_116 hl (by decide) rfl (fun ls hl => ?_)
      exact bX15_guessesAll_118 C hk_21 mk_21 F k_x0 k_x1 hkl hW hZ _ (lv_sub hl [1, 2, 3, 4, 5, 6, 7, 0] rfl) hE
    · have hE := br_n hE c_4
      refine lv_iload C.1 C.2.1 dX15_guessesAll_65 (lv_at hl 6 rfl) ?_
      refine lv_aload_n C.1 C.2.1 dX15_guessesAll_67 rfl (lv_at hl 0 rfl) ?_
      obtain ⟨r_5, er_5, hE⟩ := cl_e hE
      refine gf_X15_252 C hW k_x0 er_5 dX15_guessesAll_68 (fun k_r_5 => ?_)
      obtain ⟨r_6, er_6, hE⟩ := cl_e hE
      refine gf_X15_223 C hW k_r_5 er_6 dX15_guessesAll_71 (fun k_r_6 => ?_)
      refine lv_bipush (v := (6 : Int32)) C.1 C.2.1 dX15_guessesAll_74 (by decide) ?_
      refine lv_iload C.1 C.2.1 dX15_guessesAll_76 (lv_at hl 5 rfl) ?_
      refine lv_imul C.1 C.2.1 dX15_guessesAll_78 ?_
      refine lv_iload C.1 C.2.1 dX15_guessesAll_79 (lv_at hl 7 rfl) ?_
      refine lv_iadd C.1 C.2.1 dX15_guessesAll_81 ?_
      obtain ⟨g_7, hE⟩ := gd_e hE
      refine y_iald C hW k_r_6 g_7 dX15_guessesAll_82 ?_
      refine lv_iload C.1 C.2.1 dX15_guessesAll_83 (lv_at hl 4 rfl) ?_
      refine lv_icmp_ne (tgt := 105) C.1 C.2.1 dX15_guessesAll_85 (by decide) (fun c_8 => ?_) (fun c_8 => ?_)
      · have hE := br_n hE c_8
        exact bX15_guessesAll_105 C hk_21 hk_50 mk_21 mk_50 k_x0 k_x1 hkl hW hZ _ (lv_sub hl [0, 1, 2, 3, 4, 5, 7] rfl) hE
      · have hE := br_p hE c_8
        refine lv_aload_n C.1 C.2.1 dX15_guessesAll_88 rfl (lv_at hl 0 rfl) ?_
        refine lv_iload_n C.1 C.2.1 dX15_guessesAll_89 rfl (lv_at hl 2 rfl) ?_
        refine lv_iload_n C.1 C.2.1 dX15_guessesAll_90 rfl (lv_at hl 3 rfl) ?_
        obtain ⟨o_9, eo_9, hE⟩ := cl_e hE
        have m1 := moX15_rankFor eo_9
        have m2 := moX15_guessesAll_94 mk_21 mk_50 hE
        refine x_kI (o := o_9) (z_runV (As := [.int x2, .int x3]) (rest := [.int x6]) C (ct_X15_rankFor l X k_x0 eo_9) cw_X15_498 hW hZ k_x0 (by decide) rfl rfl rfl hl.1 (Nat.le_of_ble_eq_true rfl) rfl dX15_guessesAll_91 ⟨Nat.le_of_ble_eq_true rfl, Nat.le_of_ble_eq_true rfl⟩ (rm_ok0 hkl m1 m2)) hZ (fun _ _ hW km hZ => ?_)
        replace hkl := hkl.tr km.l
        refine x_wc km ?_
        replace k_x0 := km.at k_x0 (by decide)
        replace k_x1 := km.at k_x1 (by decide)
        exact bX15_guessesAll_94 C hk_21 hk_50 mk_21 mk_50 k_x0 k_x1 hkl hW hZ _ (lv_sub hl [0, 1, 2, 3, 4, 5, 7] rfl) hE
set_option maxRecDepth 20000 in
theorem bX15_guessesAll_45 {p : Program} {l : Launch} {e : Env} {s : State} {m : MethodId} {args : Array Value} {below : List Frame} {meth : Method} {c : Code} {X : Ec} {h0 : Hp} {o : Int32 × Hp} {k_21 : Hp → Nat → Nat → Int32 → Int32 → Int32 → Int32 → Option (Int32 × Hp)} {F : Nat} (C : Cx X p s m args meth c RX15 cX15_guessesAll 8 (some .boolean) "guessesAll") (hk_21 : ∀ (h : Hp) (x0 : Nat) (x1 : Nat) (x2 : Int32) (x3 : Int32) (x4 : Int32) (x5 : Int32) (H : Heap) (locs : List Loc), hK h x0 = 15 → hK h x1 = 12 → Kl h0 h → Wx X h H → va_S (aA (eB X)) s.heap H locs → ∀ (ls : Array Slot), lv_has ls 8 [(0, .ref x0), (1, .ref x1), (2, .int x2), (3, .int x3), (4, .int x4), (5, .int x5)] → k_21 h x0 x1 x2 x3 x4 x5 = some o → W p l e (rmA 19 398 h0 o.2) s m args below meth c H locs (hS h - hS h0) (hL h - hL h0) (MQ below (QIA X h0 o.1 o.2) args s (hS o.2 - hS h0) (hL o.2 - hL h0) (aA (eB X))) (F0 m 21 ls [])) (mk_21 : ∀ (h : Hp) (x0 : Nat) (x1 : Nat) (x2 : Int32) (x3 : Int32) (x4 : Int32) (x5 : Int32), k_21 h x0 x1 x2 x3 x4 x5 = some o → Le h o.2) {h : Hp} {x0 : Nat} {x1 : Nat} {x2 : Int32} {x3 : Int32} {x4 : Int32} {x5 : Int32} {t0 : Int32} {H : Heap} {locs : List Loc} (k_x0 : hK h x0 = 15) (k_x1 : hK h x1 = 12) (hkl : Kl h0 h) (hW : Wx X h H) (hZ : va_S (aA (eB X)) s.heap H locs) (ls : Array Slot) (hl : lv_has ls 8 [(0, .ref x0), (1, .ref x1), (2, .int x2), (3, .int x3), (4, .int x4), (5, .int x5)]) (hE : sX15_guessesAll_45 F k_21 h x0 x1 x2 x3 x4 x5 t0 = some o) : W p l e (rmA 19 398 h0 o.2) s m args below meth c H locs (hS h - hS h0) (hL h - hL h0) (MQ below (QIA X h0 o.1 o.2) args s (hS o.2 - hS h0) (hL o.2 - hL h0) (aA (eB X))) (F0 m 45 ls [.int t0]) := by
  refine lv_istore (lv' := [(6, .int t0), (0, .ref x0), (1, .ref x1), (2, .int x2), (3, .int x3), (4, .int x4), (5, .int x5)]) C.1 C.2.1 dX15_guessesAll_45 hl (by decide) rfl (fun ls hl => ?_)
  refine lv_iconst (v := (0 : Int32)) C.1 C.2.1 dX15_guessesAll_47 (by decide) ?_
  refine lv_istore (lv' := [(7, .int (0 : Int32)), (6, .int t0), (0, .ref x0), (1, .ref x1), (2, .int x2), (3, .int x3), (4, .int x4), (5, .int x5)]) C.1 C.2.1 dX15_guessesAll_48 hl (by decide) rfl (fun ls hl => ?_)
  exact bX15_guessesAll_50 C hk_21 mk_21 F k_x0 k_x1 hkl hW hZ _ (lv_sub hl [2, 3, 4, 5, 6, 7, 1, 0] rfl) hE
set_option maxRecDepth 20000 in
theorem bX15_guessesAll_21 {p : Program} {l : Launch} {e : Env} {s : State} {m : MethodId} {args : Array Value} {below : List Frame} {meth : Method} {c : Code} {X : Ec} {h0 : Hp} {o : Int32 × Hp} {F : Nat} (C : Cx X p s m args meth c RX15 cX15_guessesAll 8 (some .boolean) "guessesAll") : ∀ (f : Nat) {h : Hp} {x0 : Nat} {x1 : Nat} {x2 : Int32} {x3 : Int32} {x4 : Int32} {x5 : Int32} {H : Heap} {locs : List Loc} (k_x0 : hK h x0 = 15) (k_x1 : hK h x1 = 12), Kl h0 h → Wx X h H → va_S (aA (eB X)) s.heap H locs → ∀ (ls : Array Slot), lv_has ls 8 [(0, .ref x0), (1, .ref x1), (2, .int x2), (3, .int x3), (4, .int x4), (5, .int x5)] → sX15_guessesAll_21 F f h x0 x1 x2 x3 x4 x5 = some o → W p l e (rmA 19 398 h0 o.2) s m args below meth c H locs (hS h - hS h0) (hL h - hL h0) (MQ below (QIA X h0 o.1 o.2) args s (hS o.2 - hS h0) (hL o.2 - hL h0) (aA (eB X))) (F0 m 21 ls []) := by
  intro f
  induction f with
  | zero =>
    intro h x0 x1 x2 x3 x4 x5 H locs k_x0 k_x1 hkl hW hZ ls hl hE
    rw [sX15_guessesAll_21] at hE
    cases hE
  | succ f ih =>
    intro h x0 x1 x2 x3 x4 x5 H locs k_x0 k_x1 hkl hW hZ ls hl hE
    rw [sX15_guessesAll_21] at hE
    have mk_21 : ∀ (h : Hp) (x0 : Nat) (x1 : Nat) (x2 : Int32) (x3 : Int32) (x4 : Int32) (x5 : Int32), sX15_guessesAll_21 F f h x0 x1 x2 x3 x4 x5 = some o → Le h o.2 := fun h x0 x1 x2 x3 x4 x5 hE => moX15_guessesAll_21 _ hE
    have hk_21 : ∀ (h : Hp) (x0 : Nat) (x1 : Nat) (x2 : Int32) (x3 : Int32) (x4 : Int32) (x5 : Int32) (H : Heap) (locs : List Loc), hK h x0 = 15 → hK h x1 = 12 → Kl h0 h → Wx X h H → va_S (aA (eB X)) s.heap H locs → ∀ (ls : Array Slot), lv_has ls 8 [(0, .ref x0), (1, .ref x1), (2, .int x2), (3, .int x3), (4, .int x4), (5, .int x5)] → sX15_guessesAll_21 F f h x0 x1 x2 x3 x4 x5 = some o → W p l e (rmA 19 398 h0 o.2) s m args below meth c H locs (hS h - hS h0) (hL h - hL h0) (MQ below (QIA X h0 o.1 o.2) args s (hS o.2 - hS h0) (hL o.2 - hL h0) (aA (eB X))) (F0 m 21 ls []) := fun h x0 x1 x2 x3 x4 x5 H locs k_x0 k_x1 a b c ls hl hE => ih k_x0 k_x1 a b c ls hl hE
    refine lv_iload C.1 C.2.1 dX15_guessesAll_21 (lv_at hl 5 rfl) ?_
    refine lv_aload_n C.1 C.2.1 dX15_guessesAll_23 rfl (lv_at hl 0 rfl) ?_
    obtain ⟨r_1, er_1, hE⟩ := cl_e hE
    refine gf_X15_252 C hW k_x0 er_1 dX15_guessesAll_24 (fun k_r_1 => ?_)
    refine gf_X15_169 C hW k_r_1 dX15_guessesAll_27 ?_
    refine lv_icmp_ge (tgt := 169) C.1 C.2.1 dX15_guessesAll_30 (by decide) (fun c_2 => ?_) (fun c_2 => ?_)
    · have hE := br_p hE c_2
      refine lv_iconst (v := (1 : Int32)) C.1 C.2.1 dX15_guessesAll_169 (by decide) ?_
      exact x_iretA C rfl (by decide) hW hZ hkl hE dX15_guessesAll_170
    · have hE := br_n hE c_2
      refine lv_iload C.1 C.2.1 dX15_guessesAll_33 (lv_at hl 5 rfl) ?_
      refine lv_iload C.1 C.2.1 dX15_guessesAll_35 (lv_at hl 4 rfl) ?_
      refine lv_icmp_ne (tgt := 44) C.1 C.2.1 dX15_guessesAll_37 (by decide) (fun c_3 => ?_) (fun c_3 => ?_)
      · have hE := br_n hE c_3
        refine lv_iconst (v := (0 : Int32)) C.1 C.2.1 dX15_guessesAll_44 (by decide) ?_
        exact bX15_guessesAll_45 C hk_21 mk_21 k_x0 k_x1 hkl hW hZ _ (lv_sub hl [0, 1, 2, 3, 4, 5] rfl) hE
      · have hE := br_p hE c_3
        refine lv_iconst (v := (1 : Int32)) C.1 C.2.1 dX15_guessesAll_40 (by decide) ?_
        refine lv_goto (tgt := 45) C.1 C.2.1 dX15_guessesAll_41 (by decide) ?_
        exact bX15_guessesAll_45 C hk_21 mk_21 k_x0 k_x1 hkl hW hZ _ (lv_sub hl [0, 1, 2, 3, 4, 5] rfl) hE
set_option maxRecDepth 20000 in
theorem bX15_guessesAll_16 {p : Program} {l : Launch} {e : Env} {s : State} {m : MethodId} {args : Array Value} {below : List Frame} {meth : Method} {c : Code} {X : Ec} {h0 : Hp} {o : Int32 × Hp} {F : Nat} (C : Cx X p s m args meth c RX15 cX15_guessesAll 8 (some .boolean) "guessesAll") {h : Hp} {x0 : Nat} {x1 : Nat} {x2 : Int32} {x3 : Int32} {t0 : Int32} {H : Heap} {locs : List Loc} (k_x0 : hK h x0 = 15) (k_x1 : hK h x1 = 12) (hkl : Kl h0 h) (hW : Wx X h H) (hZ : va_S (aA (eB X)) s.heap H locs) (ls : Array Slot) (hl : lv_has ls 8 [(0, .ref x0), (1, .ref x1), (2, .int x2), (3, .int x3)]) (hE : sX15_guessesAll_16 F h x0 x1 x2 x3 t0 = some o) : W p l e (rmA 19 398 h0 o.2) s m args below meth c H locs (hS h - hS h0) (hL h - hL h0) (MQ below (QIA X h0 o.1 o.2) args s (hS o.2 - hS h0) (hL o.2 - hL h0) (aA (eB X))) (F0 m 16 ls [.int t0]) := by
  refine lv_istore (lv' := [(4, .int t0), (0, .ref x0), (1, .ref x1), (2, .int x2), (3, .int x3)]) C.1 C.2.1 dX15_guessesAll_16 hl (by decide) rfl (fun ls hl => ?_)
  refine lv_iconst (v := (0 : Int32)) C.1 C.2.1 dX15_guessesAll_18 (by decide) ?_
  refine lv_istore (lv' := [(5, .int (0 : Int32)), (4, .int t0), (0, .ref x0), (1, .ref x1), (2, .int x2), (3, .int x3)]) C.1 C.2.1 dX15_guessesAll_19 hl (by decide) rfl (fun ls hl => ?_)
  exact bX15_guessesAll_21 C F k_x0 k_x1 hkl hW hZ _ (lv_sub hl [2, 3, 4, 5, 1, 0] rfl) hE
set_option maxRecDepth 20000 in
theorem ct_X15_guessesAll (l : Launch) (X : Ec) (F : Nat) {h : Hp} {x0 : Nat} {x1 : Nat} {x2 : Int32} {o : Int32 × Hp} (k_x0 : hK h x0 = 15) (k_x1 : hK h x1 = 12) (hE : sX15_guessesAll F h x0 x1 x2 = some o) : MetIA l yX15_guessesAll cX15_guessesAll 8 (some .boolean) 19 398 X [.ref x0, .ref x1, .int x2] h o := by
  refine x_metA (oh := o.2) (by decide) (Nat.le_of_ble_eq_true rfl) ?_
  intro p e s m below meth c ls C hl hW hZ
  have hl : lv_has ls 8 [(0, .ref x0), (1, .ref x1), (2, .int x2)] := hl
  have hkl : Kl h h := Kl.rf h
  refine lv_iconst (v := (1 : Int32)) C.1 C.2.1 dX15_guessesAll_0 (by decide) ?_
  refine lv_aload_n C.1 C.2.1 dX15_guessesAll_1 rfl (lv_at hl 1 rfl) ?_
  refine gf_X15_452 C hW k_x1 dX15_guessesAll_2 ?_
  refine lv_isub C.1 C.2.1 dX15_guessesAll_5 ?_
  obtain ⟨v_1, ev_1, hE⟩ := nm_e2 hE
  refine x_nmI ev_1 ?_
  refine lv_istore_n (lv' := [(3, .int v_1), (0, .ref x0), (1, .ref x1), (2, .int x2)]) C.1 C.2.1 dX15_guessesAll_6 rfl hl (by decide) rfl (fun ls hl => ?_)
  refine lv_aload_n C.1 C.2.1 dX15_guessesAll_7 rfl (lv_at hl 2 rfl) ?_
  obtain ⟨r_2, er_2, hE⟩ := cl_e hE
  refine gf_X15_396 C hW k_x1 er_2 dX15_guessesAll_8 (fun k_r_2 => ?_)
  refine lv_iload_n C.1 C.2.1 dX15_guessesAll_11 rfl (lv_at hl 3 rfl) ?_
  obtain ⟨g_3, hE⟩ := gd_e hE
  refine y_iald C hW k_r_2 g_3 dX15_guessesAll_12 ?_
  obtain ⟨o_4, eo_4, hE⟩ := cl_e hE
  have m1 := moX15_manOf eo_4
  have m2 := moX15_guessesAll_16 hE
  refine x_kI (o := o_4) (z_runS (As := [.int (hI h r_2 x2.toNatClampNeg)]) (rest := []) C (ct_X15_manOf l X eo_4) cw_X15_492 hW hZ rfl hl.1 (Nat.le_of_ble_eq_true rfl) rfl dX15_guessesAll_13 ⟨Nat.le_of_ble_eq_true rfl, Nat.le_of_ble_eq_true rfl⟩ (rm_ok0 hkl m1 m2)) hZ (fun _ _ hW km hZ => ?_)
  replace hkl := hkl.tr km.l
  refine x_wc km ?_
  replace k_x0 := km.at k_x0 (by decide)
  replace k_x1 := km.at k_x1 (by decide)
  exact bX15_guessesAll_16 C k_x0 k_x1 hkl hW hZ _ (lv_sub hl [1, 2, 3, 0] rfl) hE
set_option maxRecDepth 100000 in
theorem ms_193 : Cond.selects RX15 yX15_guessesAll yX15_guessesAll ∈ W0 := w0_in (List.mem_append_left _ (List.mem_of_getElem? (i := 193) rfl)) rfl
set_option maxRecDepth 100000 in
theorem m_2711 : Cond.methodLink RX15 730 yX15_guessesAll ∈ W0 := w0_in (List.mem_append_right _ (List.mem_of_getElem? (i := 2711) rfl)) rfl
set_option maxRecDepth 100000 in
theorem m_2713 : Cond.instanceMethod yX15_guessesAll ∈ W0 := w0_in (List.mem_append_right _ (List.mem_of_getElem? (i := 2713) rfl)) rfl
set_option maxRecDepth 100000 in
theorem m_2714 : Cond.code yX15_guessesAll cX15_guessesAll 8 (some .boolean) ∈ W0 := w0_in (List.mem_append_right _ (List.mem_of_getElem? (i := 2714) rfl)) rfl
theorem cw_X15_730 : cwd RX15 730 yX15_guessesAll cX15_guessesAll 8 (some .boolean) false 2 := ⟨m_2714, m_2711, m_19, ⟨m_2713, ms_193⟩, by decide, by decide, by decide +kernel⟩
theorem dX15_before_0 : decode cX15_before 0 = .ok (.aload_n 0, 1) := by decide +kernel
theorem dX15_before_1 : decode cX15_before 1 = .ok (.iload_n 1, 1) := by decide +kernel
theorem dX15_before_2 : decode cX15_before 2 = .ok (.invokevirtual 486, 3) := by decide +kernel
theorem dX15_before_5 : decode cX15_before 5 = .ok (.ifCond .ne 6, 3) := by decide +kernel
theorem dX15_before_8 : decode cX15_before 8 = .ok (.bipush (-102), 2) := by decide +kernel
theorem dX15_before_10 : decode cX15_before 10 = .ok (.ireturn, 1) := by decide +kernel
theorem dX15_before_11 : decode cX15_before 11 = .ok (.aload_n 0, 1) := by decide +kernel
theorem dX15_before_12 : decode cX15_before 12 = .ok (.getfield 252, 3) := by decide +kernel
theorem dX15_before_15 : decode cX15_before 15 = .ok (.getfield 126, 3) := by decide +kernel
theorem dX15_before_18 : decode cX15_before 18 = .ok (.ifCond .ne 23, 3) := by decide +kernel
theorem dX15_before_21 : decode cX15_before 21 = .ok (.aload_n 0, 1) := by decide +kernel
theorem dX15_before_22 : decode cX15_before 22 = .ok (.getfield 252, 3) := by decide +kernel
theorem dX15_before_25 : decode cX15_before 25 = .ok (.getfield 142, 3) := by decide +kernel
theorem dX15_before_28 : decode cX15_before 28 = .ok (.ifCond .ne 13, 3) := by decide +kernel
theorem dX15_before_31 : decode cX15_before 31 = .ok (.aload_n 0, 1) := by decide +kernel
theorem dX15_before_32 : decode cX15_before 32 = .ok (.getfield 252, 3) := by decide +kernel
theorem dX15_before_35 : decode cX15_before 35 = .ok (.getfield 233, 3) := by decide +kernel
theorem dX15_before_38 : decode cX15_before 38 = .ok (.ifCond .le 6, 3) := by decide +kernel
theorem dX15_before_41 : decode cX15_before 41 = .ok (.bipush (-103), 2) := by decide +kernel
theorem dX15_before_43 : decode cX15_before 43 = .ok (.ireturn, 1) := by decide +kernel
theorem dX15_before_44 : decode cX15_before 44 = .ok (.aload_n 0, 1) := by decide +kernel
theorem dX15_before_45 : decode cX15_before 45 = .ok (.iconst 0, 1) := by decide +kernel
theorem dX15_before_46 : decode cX15_before 46 = .ok (.putfield 390, 3) := by decide +kernel
theorem dX15_before_49 : decode cX15_before 49 = .ok (.aload_n 0, 1) := by decide +kernel
theorem dX15_before_50 : decode cX15_before 50 = .ok (.getfield 257, 3) := by decide +kernel
theorem dX15_before_53 : decode cX15_before 53 = .ok (.iload_n 1, 1) := by decide +kernel
theorem dX15_before_54 : decode cX15_before 54 = .ok (.aaload, 1) := by decide +kernel
theorem dX15_before_55 : decode cX15_before 55 = .ok (.astore_n 2, 1) := by decide +kernel
theorem dX15_before_56 : decode cX15_before 56 = .ok (.iconst 0, 1) := by decide +kernel
theorem dX15_before_57 : decode cX15_before 57 = .ok (.istore_n 3, 1) := by decide +kernel
theorem dX15_before_58 : decode cX15_before 58 = .ok (.iload_n 3, 1) := by decide +kernel
theorem dX15_before_59 : decode cX15_before 59 = .ok (.aload_n 0, 1) := by decide +kernel
theorem dX15_before_60 : decode cX15_before 60 = .ok (.getfield 384, 3) := by decide +kernel
theorem dX15_before_63 : decode cX15_before 63 = .ok (.if_icmp .ge 51, 3) := by decide +kernel
theorem dX15_before_66 : decode cX15_before 66 = .ok (.aload_n 2, 1) := by decide +kernel
theorem dX15_before_67 : decode cX15_before 67 = .ok (.getfield 396, 3) := by decide +kernel
theorem dX15_before_70 : decode cX15_before 70 = .ok (.iload_n 3, 1) := by decide +kernel
theorem dX15_before_71 : decode cX15_before 71 = .ok (.iaload, 1) := by decide +kernel
theorem dX15_before_72 : decode cX15_before 72 = .ok (.ifCond .le 36, 3) := by decide +kernel
theorem dX15_before_75 : decode cX15_before 75 = .ok (.aload_n 2, 1) := by decide +kernel
theorem dX15_before_76 : decode cX15_before 76 = .ok (.getfield 396, 3) := by decide +kernel
theorem dX15_before_79 : decode cX15_before 79 = .ok (.iload_n 3, 1) := by decide +kernel
theorem dX15_before_80 : decode cX15_before 80 = .ok (.iaload, 1) := by decide +kernel
theorem dX15_before_81 : decode cX15_before 81 = .ok (.invokestatic 489, 3) := by decide +kernel
theorem dX15_before_84 : decode cX15_before 84 = .ok (.aload_n 2, 1) := by decide +kernel
theorem dX15_before_85 : decode cX15_before 85 = .ok (.getfield 452, 3) := by decide +kernel
theorem dX15_before_88 : decode cX15_before 88 = .ok (.if_icmp .eq 20, 3) := by decide +kernel
theorem dX15_before_91 : decode cX15_before 91 = .ok (.aload_n 0, 1) := by decide +kernel
theorem dX15_before_92 : decode cX15_before 92 = .ok (.aload_n 2, 1) := by decide +kernel
theorem dX15_before_93 : decode cX15_before 93 = .ok (.iload_n 3, 1) := by decide +kernel
theorem dX15_before_94 : decode cX15_before 94 = .ok (.invokevirtual 730, 3) := by decide +kernel
theorem dX15_before_97 : decode cX15_before 97 = .ok (.ifCond .ne 11, 3) := by decide +kernel
theorem dX15_before_100 : decode cX15_before 100 = .ok (.aload_n 0, 1) := by decide +kernel
theorem dX15_before_101 : decode cX15_before 101 = .ok (.iconst 0, 1) := by decide +kernel
theorem dX15_before_102 : decode cX15_before 102 = .ok (.putfield 390, 3) := by decide +kernel
theorem dX15_before_105 : decode cX15_before 105 = .ok (.bipush (-104), 2) := by decide +kernel
theorem dX15_before_107 : decode cX15_before 107 = .ok (.ireturn, 1) := by decide +kernel
theorem dX15_before_108 : decode cX15_before 108 = .ok (.iinc 3 1, 3) := by decide +kernel
theorem dX15_before_111 : decode cX15_before 111 = .ok (.goto (-53), 3) := by decide +kernel
theorem dX15_before_114 : decode cX15_before 114 = .ok (.aload_n 0, 1) := by decide +kernel
theorem dX15_before_115 : decode cX15_before 115 = .ok (.getfield 390, 3) := by decide +kernel
theorem dX15_before_118 : decode cX15_before 118 = .ok (.ireturn, 1) := by decide +kernel
set_option maxRecDepth 20000 in
theorem moX15_before_41 {o : Int32 × Hp} {F : Nat} {h : Hp} (hE : sX15_before_41 F h  = some o) : Le h o.2 := by
  exact le_some2 hE
set_option maxRecDepth 20000 in
theorem moX15_before_108 {o : Int32 × Hp} {k_58 : Hp → Nat → Nat → Int32 → Option (Int32 × Hp)} {F : Nat} (mk_58 : ∀ (h : Hp) (x0 : Nat) (x2 : Nat) (x3 : Int32), k_58 h x0 x2 x3 = some o → Le h o.2) {h : Hp} {x0 : Nat} {x2 : Nat} {x3 : Int32} (hE : sX15_before_108 F k_58 h x0 x2 x3 = some o) : Le h o.2 := by
  obtain ⟨v_1, ev_1, hE⟩ := nm_e2 hE
  exact mk_58 _ _ _ _ hE
set_option maxRecDepth 20000 in
theorem moX15_before_97 {o : Int32 × Hp} {k_58 : Hp → Nat → Nat → Int32 → Option (Int32 × Hp)} {F : Nat} (mk_58 : ∀ (h : Hp) (x0 : Nat) (x2 : Nat) (x3 : Int32), k_58 h x0 x2 x3 = some o → Le h o.2) {h : Hp} {x0 : Nat} {x2 : Nat} {x3 : Int32} {t0 : Int32} (hE : sX15_before_97 F k_58 h x0 x2 x3 t0 = some o) : Le h o.2 := by
  rcases br_e hE with ⟨_, hE⟩ | ⟨_, hE⟩
  · obtain ⟨h_2, eh_2, hE⟩ := nm_e2 hE
    refine (le_I eh_2).tr ?_
    exact le_some2 hE
  · exact moX15_before_108 mk_58 hE
set_option maxRecDepth 20000 in
theorem moX15_before_84 {o : Int32 × Hp} {k_58 : Hp → Nat → Nat → Int32 → Option (Int32 × Hp)} {F : Nat} (mk_58 : ∀ (h : Hp) (x0 : Nat) (x2 : Nat) (x3 : Int32), k_58 h x0 x2 x3 = some o → Le h o.2) {h : Hp} {x0 : Nat} {x2 : Nat} {x3 : Int32} {t0 : Int32} (hE : sX15_before_84 F k_58 h x0 x2 x3 t0 = some o) : Le h o.2 := by
  rcases br_e hE with ⟨_, hE⟩ | ⟨_, hE⟩
  · exact moX15_before_108 mk_58 hE
  · obtain ⟨o_2, eo_2, hE⟩ := cl_e hE
    refine (moX15_guessesAll eo_2).tr ?_
    exact moX15_before_97 mk_58 hE
set_option maxRecDepth 20000 in
theorem moX15_before_58 {o : Int32 × Hp} {F : Nat} : ∀ (f : Nat) {h : Hp} {x0 : Nat} {x2 : Nat} {x3 : Int32}, sX15_before_58 F f h x0 x2 x3 = some o → Le h o.2 := by
  intro f
  induction f with
  | zero =>
    intro h x0 x2 x3 hE
    rw [sX15_before_58] at hE
    cases hE
  | succ f ih =>
    intro h x0 x2 x3 hE
    rw [sX15_before_58] at hE
    have mk_58 : ∀ (h : Hp) (x0 : Nat) (x2 : Nat) (x3 : Int32), sX15_before_58 F f h x0 x2 x3 = some o → Le h o.2 := fun h x0 x2 x3 hE => ih hE
    rcases br_e hE with ⟨_, hE⟩ | ⟨_, hE⟩
    · exact le_some2 hE
    · obtain ⟨r_2, er_2, hE⟩ := cl_e hE
      obtain ⟨g_3, hE⟩ := gd_e hE
      rcases br_e hE with ⟨_, hE⟩ | ⟨_, hE⟩
      · exact moX15_before_108 mk_58 hE
      · obtain ⟨r_5, er_5, hE⟩ := cl_e hE
        obtain ⟨g_6, hE⟩ := gd_e hE
        obtain ⟨o_7, eo_7, hE⟩ := cl_e hE
        refine (moX15_sideOf eo_7).tr ?_
        exact moX15_before_84 mk_58 hE
set_option maxRecDepth 20000 in
theorem moX15_before_5 {o : Int32 × Hp} {F : Nat} {h : Hp} {x0 : Nat} {x1 : Int32} {t0 : Int32} (hE : sX15_before_5 F h x0 x1 t0 = some o) : Le h o.2 := by
  rcases br_e hE with ⟨_, hE⟩ | ⟨_, hE⟩
  · exact le_some2 hE
  · obtain ⟨r_2, er_2, hE⟩ := cl_e hE
    rcases br_e hE with ⟨_, hE⟩ | ⟨_, hE⟩
    · obtain ⟨r_4, er_4, hE⟩ := cl_e hE
      rcases br_e hE with ⟨_, hE⟩ | ⟨_, hE⟩
      · obtain ⟨r_6, er_6, hE⟩ := cl_e hE
        rcases br_e hE with ⟨_, hE⟩ | ⟨_, hE⟩
        · obtain ⟨h_8, eh_8, hE⟩ := nm_e2 hE
          refine (le_I eh_8).tr ?_
          obtain ⟨r_9, er_9, hE⟩ := cl_e hE
          obtain ⟨g_10, hE⟩ := gd_e hE
          obtain ⟨r_11, er_11, hE⟩ := cl_e hE
          exact moX15_before_58 _ hE
        · exact moX15_before_41 hE
      · exact moX15_before_41 hE
    · exact moX15_before_41 hE
set_option maxRecDepth 20000 in
theorem moX15_before {o : Int32 × Hp} {F : Nat} {h : Hp} {x0 : Nat} {x1 : Int32} (hE : sX15_before F h x0 x1 = some o) : Le h o.2 := by
  obtain ⟨o_1, eo_1, hE⟩ := cl_e hE
  refine (moX15_has eo_1).tr ?_
  exact moX15_before_5 hE
set_option maxRecDepth 20000 in
theorem bX15_before_41 {p : Program} {l : Launch} {e : Env} {s : State} {m : MethodId} {args : Array Value} {below : List Frame} {meth : Method} {c : Code} {X : Ec} {h0 : Hp} {o : Int32 × Hp} {F : Nat} (C : Cx X p s m args meth c RX15 cX15_before 4 (some .int) "before") {h : Hp} {H : Heap} {locs : List Loc} (hkl : Kl h0 h) (hW : Wx X h H) (hZ : va_S (aA (eB X)) s.heap H locs) (ls : Array Slot) (hl : lv_has ls 4 []) (hE : sX15_before_41 F h  = some o) : W p l e (rmA 20 425 h0 o.2) s m args below meth c H locs (hS h - hS h0) (hL h - hL h0) (MQ below (QIA X h0 o.1 o.2) args s (hS o.2 - hS h0) (hL o.2 - hL h0) (aA (eB X))) (F0 m 41 ls []) := by
  refine lv_bipush (v := (-103 : Int32)) C.1 C.2.1 dX15_before_41 (by decide) ?_
  exact x_iretA C rfl rfl hW hZ hkl hE dX15_before_43
set_option maxRecDepth 20000 in
theorem bX15_before_108 {p : Program} {l : Launch} {e : Env} {s : State} {m : MethodId} {args : Array Value} {below : List Frame} {meth : Method} {c : Code} {X : Ec} {h0 : Hp} {o : Int32 × Hp} {k_58 : Hp → Nat → Nat → Int32 → Option (Int32 × Hp)} {F : Nat} (C : Cx X p s m args meth c RX15 cX15_before 4 (some .int) "before") (hk_58 : ∀ (h : Hp) (x0 : Nat) (x2 : Nat) (x3 : Int32) (H : Heap) (locs : List Loc), hK h x0 = 15 → hK h x2 = 12 → Kl h0 h → Wx X h H → va_S (aA (eB X)) s.heap H locs → ∀ (ls : Array Slot), lv_has ls 4 [(0, .ref x0), (2, .ref x2), (3, .int x3)] → k_58 h x0 x2 x3 = some o → W p l e (rmA 20 425 h0 o.2) s m args below meth c H locs (hS h - hS h0) (hL h - hL h0) (MQ below (QIA X h0 o.1 o.2) args s (hS o.2 - hS h0) (hL o.2 - hL h0) (aA (eB X))) (F0 m 58 ls [])) (mk_58 : ∀ (h : Hp) (x0 : Nat) (x2 : Nat) (x3 : Int32), k_58 h x0 x2 x3 = some o → Le h o.2) {h : Hp} {x0 : Nat} {x2 : Nat} {x3 : Int32} {H : Heap} {locs : List Loc} (k_x0 : hK h x0 = 15) (k_x2 : hK h x2 = 12) (hkl : Kl h0 h) (hW : Wx X h H) (hZ : va_S (aA (eB X)) s.heap H locs) (ls : Array Slot) (hl : lv_has ls 4 [(0, .ref x0), (2, .ref x2), (3, .int x3)]) (hE : sX15_before_108 F k_58 h x0 x2 x3 = some o) : W p l e (rmA 20 425 h0 o.2) s m args below meth c H locs (hS h - hS h0) (hL h - hL h0) (MQ below (QIA X h0 o.1 o.2) args s (hS o.2 - hS h0) (hL o.2 - hL h0) (aA (eB X))) (F0 m 108 ls []) := by
  obtain ⟨v_1, ev_1, hE⟩ := nm_e2 hE
  refine lv_iinc (v := v_1) (lv' := [(3, .int v_1), (0, .ref x0), (2, .ref x2)]) C.1 C.2.1 dX15_before_108 hl (k := 2) rfl (by rw [ev_1]; rfl) (by decide) rfl (fun ls hl => ?_)
  refine lv_goto (tgt := 58) C.1 C.2.1 dX15_before_111 (by decide) ?_
  exact hk_58 _ _ _ _ _ _ k_x0 k_x2 hkl hW hZ _ (lv_sub hl [1, 2, 0] rfl) hE
set_option maxRecDepth 20000 in
theorem bX15_before_97 {p : Program} {l : Launch} {e : Env} {s : State} {m : MethodId} {args : Array Value} {below : List Frame} {meth : Method} {c : Code} {X : Ec} {h0 : Hp} {o : Int32 × Hp} {k_58 : Hp → Nat → Nat → Int32 → Option (Int32 × Hp)} {F : Nat} (C : Cx X p s m args meth c RX15 cX15_before 4 (some .int) "before") (hk_58 : ∀ (h : Hp) (x0 : Nat) (x2 : Nat) (x3 : Int32) (H : Heap) (locs : List Loc), hK h x0 = 15 → hK h x2 = 12 → Kl h0 h → Wx X h H → va_S (aA (eB X)) s.heap H locs → ∀ (ls : Array Slot), lv_has ls 4 [(0, .ref x0), (2, .ref x2), (3, .int x3)] → k_58 h x0 x2 x3 = some o → W p l e (rmA 20 425 h0 o.2) s m args below meth c H locs (hS h - hS h0) (hL h - hL h0) (MQ below (QIA X h0 o.1 o.2) args s (hS o.2 - hS h0) (hL o.2 - hL h0) (aA (eB X))) (F0 m 58 ls [])) (mk_58 : ∀ (h : Hp) (x0 : Nat) (x2 : Nat) (x3 : Int32), k_58 h x0 x2 x3 = some o → Le h o.2) {h : Hp} {x0 : Nat} {x2 : Nat} {x3 : Int32} {t0 : Int32} {H : Heap} {locs : List Loc} (k_x0 : hK h x0 = 15) (k_x2 : hK h x2 = 12) (hkl : Kl h0 h) (hW : Wx X h H) (hZ : va_S (aA (eB X)) s.heap H locs) (ls : Array Slot) (hl : lv_has ls 4 [(0, .ref x0), (2, .ref x2), (3, .int x3)]) (hE : sX15_before_97 F k_58 h x0 x2 x3 t0 = some o) : W p l e (rmA 20 425 h0 o.2) s m args below meth c H locs (hS h - hS h0) (hL h - hL h0) (MQ below (QIA X h0 o.1 o.2) args s (hS o.2 - hS h0) (hL o.2 - hL h0) (aA (eB X))) (F0 m 97 ls [.int t0]) := by
  refine lv_if_ne (tgt := 108) C.1 C.2.1 dX15_before_97 (by decide) (fun c_1 => ?_) (fun c_1 => ?_)
  · have hE := br_n hE c_1
    exact bX15_before_108 C hk_58 mk_58 k_x0 k_x2 hkl hW hZ _ (lv_sub hl [0, 1, 2] rfl) hE
  · have hE := br_p hE c_1
    refine lv_aload_n C.1 C.2.1 dX15_before_100 rfl (lv_at hl 0 rfl) ?_
    refine lv_iconst (v := (0 : Int32)) C.1 C.2.1 dX15_before_101 (by decide) ?_
    obtain ⟨h_2, eh_2, hE⟩ := nm_e2 hE
    refine pf_X15_390 C hW hZ k_x0 eh_2 dX15_before_102 (fun _ _ hW km hZ => ?_)
    replace hkl := hkl.tr km.l
    refine x_wc km ?_
    replace k_x0 := km.at k_x0 (by decide)
    replace k_x2 := km.at k_x2 (by decide)
    refine lv_bipush (v := (-104 : Int32)) C.1 C.2.1 dX15_before_105 (by decide) ?_
    exact x_iretA C rfl rfl hW hZ hkl hE dX15_before_107
set_option maxRecDepth 20000 in
theorem bX15_before_84 {p : Program} {l : Launch} {e : Env} {s : State} {m : MethodId} {args : Array Value} {below : List Frame} {meth : Method} {c : Code} {X : Ec} {h0 : Hp} {o : Int32 × Hp} {k_58 : Hp → Nat → Nat → Int32 → Option (Int32 × Hp)} {F : Nat} (C : Cx X p s m args meth c RX15 cX15_before 4 (some .int) "before") (hk_58 : ∀ (h : Hp) (x0 : Nat) (x2 : Nat) (x3 : Int32) (H : Heap) (locs : List Loc), hK h x0 = 15 → hK h x2 = 12 → Kl h0 h → Wx X h H → va_S (aA (eB X)) s.heap H locs → ∀ (ls : Array Slot), lv_has ls 4 [(0, .ref x0), (2, .ref x2), (3, .int x3)] → k_58 h x0 x2 x3 = some o → W p l e (rmA 20 425 h0 o.2) s m args below meth c H locs (hS h - hS h0) (hL h - hL h0) (MQ below (QIA X h0 o.1 o.2) args s (hS o.2 - hS h0) (hL o.2 - hL h0) (aA (eB X))) (F0 m 58 ls [])) (mk_58 : ∀ (h : Hp) (x0 : Nat) (x2 : Nat) (x3 : Int32), k_58 h x0 x2 x3 = some o → Le h o.2) {h : Hp} {x0 : Nat} {x2 : Nat} {x3 : Int32} {t0 : Int32} {H : Heap} {locs : List Loc} (k_x0 : hK h x0 = 15) (k_x2 : hK h x2 = 12) (hkl : Kl h0 h) (hW : Wx X h H) (hZ : va_S (aA (eB X)) s.heap H locs) (ls : Array Slot) (hl : lv_has ls 4 [(0, .ref x0), (2, .ref x2), (3, .int x3)]) (hE : sX15_before_84 F k_58 h x0 x2 x3 t0 = some o) : W p l e (rmA 20 425 h0 o.2) s m args below meth c H locs (hS h - hS h0) (hL h - hL h0) (MQ below (QIA X h0 o.1 o.2) args s (hS o.2 - hS h0) (hL o.2 - hL h0) (aA (eB X))) (F0 m 84 ls [.int t0]) := by
  refine lv_aload_n C.1 C.2.1 dX15_before_84 rfl (lv_at hl 1 rfl) ?_
  refine gf_X15_452 C hW k_x2 dX15_before_85 ?_
  refine lv_icmp_eq (tgt := 108) C.1 C.2.1 dX15_before_88 (by decide) (fun c_1 => ?_) (fun c_1 => ?_)
  · have hE := br_p hE c_1
    exact bX15_before_108 C hk_58 mk_58 k_x0 k_x2 hkl hW hZ _ (lv_sub hl [0, 1, 2] rfl) hE
  · have hE := br_n hE c_1
    refine lv_aload_n C.1 C.2.1 dX15_before_91 rfl (lv_at hl 0 rfl) ?_
    refine lv_aload_n C.1 C.2.1 dX15_before_92 rfl (lv_at hl 1 rfl) ?_
    refine lv_iload_n C.1 C.2.1 dX15_before_93 rfl (lv_at hl 2 rfl) ?_
    obtain ⟨o_2, eo_2, hE⟩ := cl_e hE
    have m1 := moX15_guessesAll eo_2
    have m2 := moX15_before_97 mk_58 hE
    refine x_kIA (o := o_2) hkl (z_runV (As := [.ref x2, .int x3]) (rest := []) C (ct_X15_guessesAll l X F k_x0 k_x2 eo_2) cw_X15_730 hW hZ k_x0 (by decide) rfl rfl rfl hl.1 (Nat.le_of_ble_eq_true rfl) rfl dX15_before_94 ⟨Nat.le_of_ble_eq_true rfl, Nat.le_of_ble_eq_true rfl⟩ (rm_ok hkl m1 m2)) hZ (fun _ _ hW km hZ => ?_)
    replace hkl := hkl.tr km
    replace k_x0 := km.at k_x0 (by decide)
    replace k_x2 := km.at k_x2 (by decide)
    exact bX15_before_97 C hk_58 mk_58 k_x0 k_x2 hkl hW hZ _ (lv_sub hl [0, 1, 2] rfl) hE
set_option maxRecDepth 20000 in
theorem bX15_before_58 {p : Program} {l : Launch} {e : Env} {s : State} {m : MethodId} {args : Array Value} {below : List Frame} {meth : Method} {c : Code} {X : Ec} {h0 : Hp} {o : Int32 × Hp} {F : Nat} (C : Cx X p s m args meth c RX15 cX15_before 4 (some .int) "before") : ∀ (f : Nat) {h : Hp} {x0 : Nat} {x2 : Nat} {x3 : Int32} {H : Heap} {locs : List Loc} (k_x0 : hK h x0 = 15) (k_x2 : hK h x2 = 12), Kl h0 h → Wx X h H → va_S (aA (eB X)) s.heap H locs → ∀ (ls : Array Slot), lv_has ls 4 [(0, .ref x0), (2, .ref x2), (3, .int x3)] → sX15_before_58 F f h x0 x2 x3 = some o → W p l e (rmA 20 425 h0 o.2) s m args below meth c H locs (hS h - hS h0) (hL h - hL h0) (MQ below (QIA X h0 o.1 o.2) args s (hS o.2 - hS h0) (hL o.2 - hL h0) (aA (eB X))) (F0 m 58 ls []) := by
  intro f
  induction f with
  | zero =>
    intro h x0 x2 x3 H locs k_x0 k_x2 hkl hW hZ ls hl hE
    rw [sX15_before_58] at hE
    cases hE
  | succ f ih =>
    intro h x0 x2 x3 H locs k_x0 k_x2 hkl hW hZ ls hl hE
    rw [sX15_before_58] at hE
    have mk_58 : ∀ (h : Hp) (x0 : Nat) (x2 : Nat) (x3 : Int32), sX15_before_58 F f h x0 x2 x3 = some o → Le h o.2 := fun h x0 x2 x3 hE => moX15_before_58 _ hE
    have hk_58 : ∀ (h : Hp) (x0 : Nat) (x2 : Nat) (x3 : Int32) (H : Heap) (locs : List Loc), hK h x0 = 15 → hK h x2 = 12 → Kl h0 h → Wx X h H → va_S (aA (eB X)) s.heap H locs → ∀ (ls : Array Slot), lv_has ls 4 [(0, .ref x0), (2, .ref x2), (3, .int x3)] → sX15_before_58 F f h x0 x2 x3 = some o → W p l e (rmA 20 425 h0 o.2) s m args below meth c H locs (hS h - hS h0) (hL h - hL h0) (MQ below (QIA X h0 o.1 o.2) args s (hS o.2 - hS h0) (hL o.2 - hL h0) (aA (eB X))) (F0 m 58 ls []) := fun h x0 x2 x3 H locs k_x0 k_x2 a b c ls hl hE => ih k_x0 k_x2 a b c ls hl hE
    refine lv_iload_n C.1 C.2.1 dX15_before_58 rfl (lv_at hl 2 rfl) ?_
    refine lv_aload_n C.1 C.2.1 dX15_before_59 rfl (lv_at hl 0 rfl) ?_
    refine gf_X15_384 C hW k_x0 dX15_before_60 ?_
    refine lv_icmp_ge (tgt := 114) C.1 C.2.1 dX15_before_63 (by decide) (fun c_1 => ?_) (fun c_1 => ?_)
    · have hE := br_p hE c_1
      refine lv_aload_n C.1 C.2.1 dX15_before_114 rfl (lv_at hl 0 rfl) ?_
      refine gf_X15_390 C hW k_x0 dX15_before_115 ?_
      exact x_iretA C rfl rfl hW hZ hkl hE dX15_before_118
    · have hE := br_n hE c_1
      refine lv_aload_n C.1 C.2.1 dX15_before_66 rfl (lv_at hl 1 rfl) ?_
      obtain ⟨r_2, er_2, hE⟩ := cl_e hE
      refine gf_X15_396 C hW k_x2 er_2 dX15_before_67 (fun k_r_2 => ?_)
      refine lv_iload_n C.1 C.2.1 dX15_before_70 rfl (lv_at hl 2 rfl) ?_
      obtain ⟨g_3, hE⟩ := gd_e hE
      refine y_iald C hW k_r_2 g_3 dX15_before_71 ?_
      refine lv_if_le (tgt := 108) C.1 C.2.1 dX15_before_72 (by decide) (fun c_4 => ?_) (fun c_4 => ?_)
      · have hE := br_p hE c_4
        exact bX15_before_108 C hk_58 mk_58 k_x0 k_x2 hkl hW hZ _ (lv_sub hl [0, 1, 2] rfl) hE
      · have hE := br_n hE c_4
        refine lv_aload_n C.1 C.2.1 dX15_before_75 rfl (lv_at hl 1 rfl) ?_
        obtain ⟨r_5, er_5, hE⟩ := cl_e hE
        refine gf_X15_396 C hW k_x2 er_5 dX15_before_76 (fun k_r_5 => ?_)
        refine lv_iload_n C.1 C.2.1 dX15_before_79 rfl (lv_at hl 2 rfl) ?_
        obtain ⟨g_6, hE⟩ := gd_e hE
        refine y_iald C hW k_r_5 g_6 dX15_before_80 ?_
        obtain ⟨o_7, eo_7, hE⟩ := cl_e hE
        have m1 := moX15_sideOf eo_7
        have m2 := moX15_before_84 mk_58 hE
        refine x_kI (o := o_7) (z_runS (As := [.int (hI h r_5 x3.toNatClampNeg)]) (rest := []) C (ct_X15_sideOf l X eo_7) cw_X15_489 hW hZ rfl hl.1 (Nat.le_of_ble_eq_true rfl) rfl dX15_before_81 ⟨Nat.le_of_ble_eq_true rfl, Nat.le_of_ble_eq_true rfl⟩ (rm_ok0 hkl m1 m2)) hZ (fun _ _ hW km hZ => ?_)
        replace hkl := hkl.tr km.l
        refine x_wc km ?_
        replace k_x0 := km.at k_x0 (by decide)
        replace k_x2 := km.at k_x2 (by decide)
        exact bX15_before_84 C hk_58 mk_58 k_x0 k_x2 hkl hW hZ _ (lv_sub hl [0, 1, 2] rfl) hE
set_option maxRecDepth 20000 in
theorem bX15_before_5 {p : Program} {l : Launch} {e : Env} {s : State} {m : MethodId} {args : Array Value} {below : List Frame} {meth : Method} {c : Code} {X : Ec} {h0 : Hp} {o : Int32 × Hp} {F : Nat} (C : Cx X p s m args meth c RX15 cX15_before 4 (some .int) "before") {h : Hp} {x0 : Nat} {x1 : Int32} {t0 : Int32} {H : Heap} {locs : List Loc} (k_x0 : hK h x0 = 15) (hkl : Kl h0 h) (hW : Wx X h H) (hZ : va_S (aA (eB X)) s.heap H locs) (ls : Array Slot) (hl : lv_has ls 4 [(0, .ref x0), (1, .int x1)]) (hE : sX15_before_5 F h x0 x1 t0 = some o) : W p l e (rmA 20 425 h0 o.2) s m args below meth c H locs (hS h - hS h0) (hL h - hL h0) (MQ below (QIA X h0 o.1 o.2) args s (hS o.2 - hS h0) (hL o.2 - hL h0) (aA (eB X))) (F0 m 5 ls [.int t0]) := by
  refine lv_if_ne (tgt := 11) C.1 C.2.1 dX15_before_5 (by decide) (fun c_1 => ?_) (fun c_1 => ?_)
  · have hE := br_n hE c_1
    refine lv_aload_n C.1 C.2.1 dX15_before_11 rfl (lv_at hl 0 rfl) ?_
    obtain ⟨r_2, er_2, hE⟩ := cl_e hE
    refine gf_X15_252 C hW k_x0 er_2 dX15_before_12 (fun k_r_2 => ?_)
    refine gf_X15_126 C hW k_r_2 dX15_before_15 ?_
    refine lv_if_ne (tgt := 41) C.1 C.2.1 dX15_before_18 (by decide) (fun c_3 => ?_) (fun c_3 => ?_)
    · have hE := br_n hE c_3
      exact bX15_before_41 C hkl hW hZ _ (lv_sub hl [] rfl) hE
    · have hE := br_p hE c_3
      refine lv_aload_n C.1 C.2.1 dX15_before_21 rfl (lv_at hl 0 rfl) ?_
      obtain ⟨r_4, er_4, hE⟩ := cl_e hE
      refine gf_X15_252 C hW k_x0 er_4 dX15_before_22 (fun k_r_4 => ?_)
      refine gf_X15_142 C hW k_r_4 dX15_before_25 ?_
      refine lv_if_ne (tgt := 41) C.1 C.2.1 dX15_before_28 (by decide) (fun c_5 => ?_) (fun c_5 => ?_)
      · have hE := br_n hE c_5
        exact bX15_before_41 C hkl hW hZ _ (lv_sub hl [] rfl) hE
      · have hE := br_p hE c_5
        refine lv_aload_n C.1 C.2.1 dX15_before_31 rfl (lv_at hl 0 rfl) ?_
        obtain ⟨r_6, er_6, hE⟩ := cl_e hE
        refine gf_X15_252 C hW k_x0 er_6 dX15_before_32 (fun k_r_6 => ?_)
        refine gf_X15_233 C hW k_r_6 dX15_before_35 ?_
        refine lv_if_le (tgt := 44) C.1 C.2.1 dX15_before_38 (by decide) (fun c_7 => ?_) (fun c_7 => ?_)
        · have hE := br_p hE c_7
          refine lv_aload_n C.1 C.2.1 dX15_before_44 rfl (lv_at hl 0 rfl) ?_
          refine lv_iconst (v := (0 : Int32)) C.1 C.2.1 dX15_before_45 (by decide) ?_
          obtain ⟨h_8, eh_8, hE⟩ := nm_e2 hE
          refine pf_X15_390 C hW hZ k_x0 eh_8 dX15_before_46 (fun _ _ hW km hZ => ?_)
          replace hkl := hkl.tr km.l
          refine x_wc km ?_
          replace k_x0 := km.at k_x0 (by decide)
          refine lv_aload_n C.1 C.2.1 dX15_before_49 rfl (lv_at hl 0 rfl) ?_
          obtain ⟨r_9, er_9, hE⟩ := cl_e hE
          refine gf_X15_257 C hW k_x0 er_9 dX15_before_50 (fun k_r_9 => ?_)
          refine lv_iload_n C.1 C.2.1 dX15_before_53 rfl (lv_at hl 1 rfl) ?_
          obtain ⟨g_10, hE⟩ := gd_e hE
          obtain ⟨r_11, er_11, hE⟩ := cl_e hE
          refine y_aald (t0 := 5) C hW k_r_9 (by decide) (by decide) rfl rfl rfl (fun _ => rfl) g_10 er_11 dX15_before_54 (fun k_r_11 => ?_)
          refine lv_astore_n (lv' := [(2, .ref r_11), (0, .ref x0), (1, .int x1)]) C.1 C.2.1 dX15_before_55 rfl hl (by decide) rfl (fun ls hl => ?_)
          refine lv_iconst (v := (0 : Int32)) C.1 C.2.1 dX15_before_56 (by decide) ?_
          refine lv_istore_n (lv' := [(3, .int (0 : Int32)), (2, .ref r_11), (0, .ref x0), (1, .int x1)]) C.1 C.2.1 dX15_before_57 rfl hl (by decide) rfl (fun ls hl => ?_)
          exact bX15_before_58 C F k_x0 k_r_11 hkl hW hZ _ (lv_sub hl [2, 1, 0] rfl) hE
        · have hE := br_n hE c_7
          exact bX15_before_41 C hkl hW hZ _ (lv_sub hl [] rfl) hE
  · have hE := br_p hE c_1
    refine lv_bipush (v := (-102 : Int32)) C.1 C.2.1 dX15_before_8 (by decide) ?_
    exact x_iretA C rfl rfl hW hZ hkl hE dX15_before_10
set_option maxRecDepth 20000 in
theorem ct_X15_before (l : Launch) (X : Ec) (F : Nat) {h : Hp} {x0 : Nat} {x1 : Int32} {o : Int32 × Hp} (k_x0 : hK h x0 = 15) (hE : sX15_before F h x0 x1 = some o) : MetIA l yX15_before cX15_before 4 (some .int) 20 425 X [.ref x0, .int x1] h o := by
  refine x_metA (oh := o.2) (by decide) (Nat.le_of_ble_eq_true rfl) ?_
  intro p e s m below meth c ls C hl hW hZ
  have hl : lv_has ls 4 [(0, .ref x0), (1, .int x1)] := hl
  have hkl : Kl h h := Kl.rf h
  refine lv_aload_n C.1 C.2.1 dX15_before_0 rfl (lv_at hl 0 rfl) ?_
  refine lv_iload_n C.1 C.2.1 dX15_before_1 rfl (lv_at hl 1 rfl) ?_
  obtain ⟨o_1, eo_1, hE⟩ := cl_e hE
  have m1 := moX15_has eo_1
  have m2 := moX15_before_5 hE
  refine x_kI (o := o_1) (z_runV (As := [.int x1]) (rest := []) C (ct_X15_has l X k_x0 eo_1) cw_X15_486 hW hZ k_x0 (by decide) rfl rfl rfl hl.1 (Nat.le_of_ble_eq_true rfl) rfl dX15_before_2 ⟨Nat.le_of_ble_eq_true rfl, Nat.le_of_ble_eq_true rfl⟩ (rm_ok0 hkl m1 m2)) hZ (fun _ _ hW km hZ => ?_)
  replace hkl := hkl.tr km.l
  refine x_wc km ?_
  replace k_x0 := km.at k_x0 (by decide)
  exact bX15_before_5 C k_x0 hkl hW hZ _ (lv_sub hl [0, 1] rfl) hE
