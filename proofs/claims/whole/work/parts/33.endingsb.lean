theorem ms_99 : Cond.selects RX0 yX0_goBack yX0_goBack ∈ W0 := w0_in (List.mem_append_left _ (List.mem_of_getElem? (i := 99) (by decide +kernel))) rfl
theorem m_1697 : Cond.methodLink RX0 119 yX0_goBack ∈ W0 := w0_in (List.mem_append_right _ (List.mem_of_getElem? (i := 1697) (by decide +kernel))) rfl
theorem m_1699 : Cond.instanceMethod yX0_goBack ∈ W0 := w0_in (List.mem_append_right _ (List.mem_of_getElem? (i := 1699) (by decide +kernel))) rfl
theorem m_1700 : Cond.code yX0_goBack cX0_goBack 9 none ∈ W0 := w0_in (List.mem_append_right _ (List.mem_of_getElem? (i := 1700) (by decide +kernel))) rfl
theorem cw_X0_119 : cwd RX0 119 yX0_goBack cX0_goBack 9 none false 1 := ⟨m_1700, m_1697, m_13, ⟨m_1699, ms_99⟩, by decide, by decide, by decide +kernel⟩
theorem dX0_countAll_0 : decode cX0_countAll 0 = .ok (.iconst 0, 1) := by decide +kernel
theorem dX0_countAll_1 : decode cX0_countAll 1 = .ok (.istore_n 1, 1) := by decide +kernel
theorem dX0_countAll_2 : decode cX0_countAll 2 = .ok (.iload_n 1, 1) := by decide +kernel
theorem dX0_countAll_3 : decode cX0_countAll 3 = .ok (.aload_n 0, 1) := by decide +kernel
theorem dX0_countAll_4 : decode cX0_countAll 4 = .ok (.getfield 128, 3) := by decide +kernel
theorem dX0_countAll_7 : decode cX0_countAll 7 = .ok (.if_icmp .ge 143, 3) := by decide +kernel
theorem dX0_countAll_10 : decode cX0_countAll 10 = .ok (.aload_n 0, 1) := by decide +kernel
theorem dX0_countAll_11 : decode cX0_countAll 11 = .ok (.getfield 22, 3) := by decide +kernel
theorem dX0_countAll_14 : decode cX0_countAll 14 = .ok (.iload_n 1, 1) := by decide +kernel
theorem dX0_countAll_15 : decode cX0_countAll 15 = .ok (.iconst 1, 1) := by decide +kernel
theorem dX0_countAll_16 : decode cX0_countAll 16 = .ok (.iadd, 1) := by decide +kernel
theorem dX0_countAll_17 : decode cX0_countAll 17 = .ok (.iaload, 1) := by decide +kernel
theorem dX0_countAll_18 : decode cX0_countAll 18 = .ok (.aload_n 0, 1) := by decide +kernel
theorem dX0_countAll_19 : decode cX0_countAll 19 = .ok (.getfield 22, 3) := by decide +kernel
theorem dX0_countAll_22 : decode cX0_countAll 22 = .ok (.iload_n 1, 1) := by decide +kernel
theorem dX0_countAll_23 : decode cX0_countAll 23 = .ok (.iaload, 1) := by decide +kernel
theorem dX0_countAll_24 : decode cX0_countAll 24 = .ok (.isub, 1) := by decide +kernel
theorem dX0_countAll_25 : decode cX0_countAll 25 = .ok (.iconst 1, 1) := by decide +kernel
theorem dX0_countAll_26 : decode cX0_countAll 26 = .ok (.ishr, 1) := by decide +kernel
theorem dX0_countAll_27 : decode cX0_countAll 27 = .ok (.istore_n 2, 1) := by decide +kernel
theorem dX0_countAll_28 : decode cX0_countAll 28 = .ok (.iconst 0, 1) := by decide +kernel
theorem dX0_countAll_29 : decode cX0_countAll 29 = .ok (.istore_n 3, 1) := by decide +kernel
theorem dX0_countAll_30 : decode cX0_countAll 30 = .ok (.iload_n 3, 1) := by decide +kernel
theorem dX0_countAll_31 : decode cX0_countAll 31 = .ok (.iload_n 2, 1) := by decide +kernel
theorem dX0_countAll_32 : decode cX0_countAll 32 = .ok (.if_icmp .ge 112, 3) := by decide +kernel
theorem dX0_countAll_35 : decode cX0_countAll 35 = .ok (.aload_n 0, 1) := by decide +kernel
theorem dX0_countAll_36 : decode cX0_countAll 36 = .ok (.getfield 22, 3) := by decide +kernel
theorem dX0_countAll_39 : decode cX0_countAll 39 = .ok (.iload_n 1, 1) := by decide +kernel
theorem dX0_countAll_40 : decode cX0_countAll 40 = .ok (.iaload, 1) := by decide +kernel
theorem dX0_countAll_41 : decode cX0_countAll 41 = .ok (.iconst 2, 1) := by decide +kernel
theorem dX0_countAll_42 : decode cX0_countAll 42 = .ok (.iload_n 3, 1) := by decide +kernel
theorem dX0_countAll_43 : decode cX0_countAll 43 = .ok (.imul, 1) := by decide +kernel
theorem dX0_countAll_44 : decode cX0_countAll 44 = .ok (.iadd, 1) := by decide +kernel
theorem dX0_countAll_45 : decode cX0_countAll 45 = .ok (.istore 4, 2) := by decide +kernel
theorem dX0_countAll_47 : decode cX0_countAll 47 = .ok (.aload_n 0, 1) := by decide +kernel
theorem dX0_countAll_48 : decode cX0_countAll 48 = .ok (.getfield 31, 3) := by decide +kernel
theorem dX0_countAll_51 : decode cX0_countAll 51 = .ok (.iload 4, 2) := by decide +kernel
theorem dX0_countAll_53 : decode cX0_countAll 53 = .ok (.iaload, 1) := by decide +kernel
theorem dX0_countAll_54 : decode cX0_countAll 54 = .ok (.ldc 191, 2) := by decide +kernel
theorem dX0_countAll_56 : decode cX0_countAll 56 = .ok (.if_icmp .ne 17, 3) := by decide +kernel
theorem dX0_countAll_59 : decode cX0_countAll 59 = .ok (.aload_n 0, 1) := by decide +kernel
theorem dX0_countAll_60 : decode cX0_countAll 60 = .ok (.getfield 31, 3) := by decide +kernel
theorem dX0_countAll_63 : decode cX0_countAll 63 = .ok (.iload 4, 2) := by decide +kernel
theorem dX0_countAll_65 : decode cX0_countAll 65 = .ok (.iconst 1, 1) := by decide +kernel
theorem dX0_countAll_66 : decode cX0_countAll 66 = .ok (.iadd, 1) := by decide +kernel
theorem dX0_countAll_67 : decode cX0_countAll 67 = .ok (.iaload, 1) := by decide +kernel
theorem dX0_countAll_68 : decode cX0_countAll 68 = .ok (.ldc 191, 2) := by decide +kernel
theorem dX0_countAll_70 : decode cX0_countAll 70 = .ok (.if_icmp .eq 7, 3) := by decide +kernel
theorem dX0_countAll_73 : decode cX0_countAll 73 = .ok (.iconst 1, 1) := by decide +kernel
theorem dX0_countAll_74 : decode cX0_countAll 74 = .ok (.goto 4, 3) := by decide +kernel
theorem dX0_countAll_77 : decode cX0_countAll 77 = .ok (.iconst 0, 1) := by decide +kernel
theorem dX0_countAll_78 : decode cX0_countAll 78 = .ok (.istore 5, 2) := by decide +kernel
theorem dX0_countAll_80 : decode cX0_countAll 80 = .ok (.iload 5, 2) := by decide +kernel
theorem dX0_countAll_82 : decode cX0_countAll 82 = .ok (.ifCond .eq 56, 3) := by decide +kernel
theorem dX0_countAll_85 : decode cX0_countAll 85 = .ok (.aload_n 0, 1) := by decide +kernel
theorem dX0_countAll_86 : decode cX0_countAll 86 = .ok (.aload_n 0, 1) := by decide +kernel
theorem dX0_countAll_87 : decode cX0_countAll 87 = .ok (.getfield 18, 3) := by decide +kernel
theorem dX0_countAll_90 : decode cX0_countAll 90 = .ok (.iload_n 1, 1) := by decide +kernel
theorem dX0_countAll_91 : decode cX0_countAll 91 = .ok (.iaload, 1) := by decide +kernel
theorem dX0_countAll_92 : decode cX0_countAll 92 = .ok (.iload_n 3, 1) := by decide +kernel
theorem dX0_countAll_93 : decode cX0_countAll 93 = .ok (.invokevirtual 115, 3) := by decide +kernel
theorem dX0_countAll_96 : decode cX0_countAll 96 = .ok (.ifCond .ne 6, 3) := by decide +kernel
theorem dX0_countAll_99 : decode cX0_countAll 99 = .ok (.goto 39, 3) := by decide +kernel
theorem dX0_countAll_102 : decode cX0_countAll 102 = .ok (.iconst 0, 1) := by decide +kernel
theorem dX0_countAll_103 : decode cX0_countAll 103 = .ok (.istore 6, 2) := by decide +kernel
theorem dX0_countAll_105 : decode cX0_countAll 105 = .ok (.iload 6, 2) := by decide +kernel
theorem dX0_countAll_107 : decode cX0_countAll 107 = .ok (.iconst 2, 1) := by decide +kernel
theorem dX0_countAll_108 : decode cX0_countAll 108 = .ok (.if_icmp .ge 30, 3) := by decide +kernel
theorem dX0_countAll_111 : decode cX0_countAll 111 = .ok (.aload_n 0, 1) := by decide +kernel
theorem dX0_countAll_112 : decode cX0_countAll 112 = .ok (.getfield 31, 3) := by decide +kernel
theorem dX0_countAll_115 : decode cX0_countAll 115 = .ok (.iload 4, 2) := by decide +kernel
theorem dX0_countAll_117 : decode cX0_countAll 117 = .ok (.iload 6, 2) := by decide +kernel
theorem dX0_countAll_119 : decode cX0_countAll 119 = .ok (.iadd, 1) := by decide +kernel
theorem dX0_countAll_120 : decode cX0_countAll 120 = .ok (.iaload, 1) := by decide +kernel
theorem dX0_countAll_121 : decode cX0_countAll 121 = .ok (.ldc 191, 2) := by decide +kernel
theorem dX0_countAll_123 : decode cX0_countAll 123 = .ok (.if_icmp .eq 9, 3) := by decide +kernel
theorem dX0_countAll_126 : decode cX0_countAll 126 = .ok (.aload_n 0, 1) := by decide +kernel
theorem dX0_countAll_127 : decode cX0_countAll 127 = .ok (.iload 6, 2) := by decide +kernel
theorem dX0_countAll_129 : decode cX0_countAll 129 = .ok (.invokevirtual 119, 3) := by decide +kernel
theorem dX0_countAll_132 : decode cX0_countAll 132 = .ok (.iinc 6 1, 3) := by decide +kernel
theorem dX0_countAll_135 : decode cX0_countAll 135 = .ok (.goto (-30), 3) := by decide +kernel
theorem dX0_countAll_138 : decode cX0_countAll 138 = .ok (.iinc 3 1, 3) := by decide +kernel
theorem dX0_countAll_141 : decode cX0_countAll 141 = .ok (.goto (-111), 3) := by decide +kernel
theorem dX0_countAll_144 : decode cX0_countAll 144 = .ok (.iinc 1 1, 3) := by decide +kernel
theorem dX0_countAll_147 : decode cX0_countAll 147 = .ok (.goto (-145), 3) := by decide +kernel
theorem dX0_countAll_150 : decode cX0_countAll 150 = .ok (.return_, 1) := by decide +kernel
def sX0_countAll_138 (F : Nat) (k_2 : Hp → Nat → Int32 → Option (Hp)) (k_30 : Hp → Nat → Int32 → Int32 → Int32 → Option (Hp)) (h : Hp) (x0 : Nat) (x1 : Int32) (x2 : Int32) (x3 : Int32) : Option (Hp) := nm (x3 + (1 : Int32)) fun v_1 => k_30 h x0 x1 x2 v_1
def sX0_countAll_132 (F : Nat) (k_2 : Hp → Nat → Int32 → Option (Hp)) (k_30 : Hp → Nat → Int32 → Int32 → Int32 → Option (Hp)) (k_105 : Hp → Nat → Int32 → Int32 → Int32 → Int32 → Int32 → Option (Hp)) (h : Hp) (x0 : Nat) (x1 : Int32) (x2 : Int32) (x3 : Int32) (x4 : Int32) (x6 : Int32) : Option (Hp) := nm (x6 + (1 : Int32)) fun v_1 => k_105 h x0 x1 x2 x3 x4 v_1
def sX0_countAll_105 (F : Nat) (k_2 : Hp → Nat → Int32 → Option (Hp)) (k_30 : Hp → Nat → Int32 → Int32 → Int32 → Option (Hp)) : Nat → Hp → Nat → Int32 → Int32 → Int32 → Int32 → Int32 → Option (Hp)
  | 0, _, _, _, _, _, _, _ => none
  | f + 1, h, x0, x1, x2, x3, x4, x6 => br ((2 : Int32) ≤ x6) (sX0_countAll_138 F k_2 k_30 h x0 x1 x2 x3) (cl (hR h x0 11) fun r_2 => gd (inB (x4 + x6) (hN h r_2)) <| br ((hI h r_2 (x4 + x6).toNatClampNeg) = (4000000 : Int32)) (sX0_countAll_132 F k_2 k_30 (sX0_countAll_105 F k_2 k_30 f) h x0 x1 x2 x3 x4 x6) (cl (sX0_goBack F h x0 x6) fun o_5 => sX0_countAll_132 F k_2 k_30 (sX0_countAll_105 F k_2 k_30 f) o_5 x0 x1 x2 x3 x4 x6))
def sX0_countAll_78 (F : Nat) (k_2 : Hp → Nat → Int32 → Option (Hp)) (k_30 : Hp → Nat → Int32 → Int32 → Int32 → Option (Hp)) (h : Hp) (x0 : Nat) (x1 : Int32) (x2 : Int32) (x3 : Int32) (x4 : Int32) (t0 : Int32) : Option (Hp) := br (t0 = 0) (sX0_countAll_138 F k_2 k_30 h x0 x1 x2 x3) (cl (hR h x0 4) fun r_2 => gd (inB x1 (hN h r_2)) <| cl (sX0_layOut F h x0 (hI h r_2 x1.toNatClampNeg) x3) fun o_4 => br (o_4.1 = 0) (sX0_countAll_138 F k_2 k_30 o_4.2 x0 x1 x2 x3) (sX0_countAll_105 F k_2 k_30 F o_4.2 x0 x1 x2 x3 x4 (0 : Int32)))
def sX0_countAll_73 (F : Nat) (k_2 : Hp → Nat → Int32 → Option (Hp)) (k_30 : Hp → Nat → Int32 → Int32 → Int32 → Option (Hp)) (h : Hp) (x0 : Nat) (x1 : Int32) (x2 : Int32) (x3 : Int32) (x4 : Int32) : Option (Hp) := sX0_countAll_78 F k_2 k_30 h x0 x1 x2 x3 x4 (1 : Int32)
def sX0_countAll_30 (F : Nat) (k_2 : Hp → Nat → Int32 → Option (Hp)) : Nat → Hp → Nat → Int32 → Int32 → Int32 → Option (Hp)
  | 0, _, _, _, _, _ => none
  | f + 1, h, x0, x1, x2, x3 => br (x2 ≤ x3) (nm (x1 + (1 : Int32)) fun v_2 => k_2 h x0 v_2) (cl (hR h x0 5) fun r_3 => gd (inB x1 (hN h r_3)) <| nm ((hI h r_3 x1.toNatClampNeg) + ((2 : Int32) * x3)) fun v_5 => cl (hR h x0 11) fun r_6 => gd (inB v_5 (hN h r_6)) <| br ((hI h r_6 v_5.toNatClampNeg) = (4000000 : Int32)) (cl (hR h x0 11) fun r_9 => gd (inB (v_5 + (1 : Int32)) (hN h r_9)) <| br ((hI h r_9 (v_5 + (1 : Int32)).toNatClampNeg) = (4000000 : Int32)) (sX0_countAll_78 F k_2 (sX0_countAll_30 F k_2 f) h x0 x1 x2 x3 v_5 (0 : Int32)) (sX0_countAll_73 F k_2 (sX0_countAll_30 F k_2 f) h x0 x1 x2 x3 v_5)) (sX0_countAll_73 F k_2 (sX0_countAll_30 F k_2 f) h x0 x1 x2 x3 v_5))
def sX0_countAll_2 (F : Nat) : Nat → Hp → Nat → Int32 → Option (Hp)
  | 0, _, _, _ => none
  | f + 1, h, x0, x1 => br ((hI h x0 9) ≤ x1) (some h) (cl (hR h x0 5) fun r_2 => gd (inB (x1 + (1 : Int32)) (hN h r_2)) <| cl (hR h x0 5) fun r_4 => gd (inB x1 (hN h r_4)) <| nm (((hI h r_2 (x1 + (1 : Int32)).toNatClampNeg) - (hI h r_4 x1.toNatClampNeg)) >>> ((1 : Int32) &&& 31)) fun v_6 => sX0_countAll_30 F (sX0_countAll_2 F f) F h x0 x1 v_6 (0 : Int32))
def sX0_countAll (F : Nat) (h : Hp) (x0 : Nat) : Option (Hp) := sX0_countAll_2 F F h x0 (0 : Int32)
set_option maxRecDepth 20000 in
theorem moX0_countAll_138 {o : Hp} {k_2 : Hp → Nat → Int32 → Option (Hp)} {k_30 : Hp → Nat → Int32 → Int32 → Int32 → Option (Hp)} {F : Nat} (mk_2 : ∀ (h : Hp) (x0 : Nat) (x1 : Int32), k_2 h x0 x1 = some o → Le h o) (mk_30 : ∀ (h : Hp) (x0 : Nat) (x1 : Int32) (x2 : Int32) (x3 : Int32), k_30 h x0 x1 x2 x3 = some o → Le h o) {h : Hp} {x0 : Nat} {x1 : Int32} {x2 : Int32} {x3 : Int32} (hE : sX0_countAll_138 F k_2 k_30 h x0 x1 x2 x3 = some o) : Le h o := by
  obtain ⟨v_1, ev_1, hE⟩ := nm_e2 hE
  exact mk_30 _ _ _ _ _ hE
set_option maxRecDepth 20000 in
theorem moX0_countAll_132 {o : Hp} {k_2 : Hp → Nat → Int32 → Option (Hp)} {k_30 : Hp → Nat → Int32 → Int32 → Int32 → Option (Hp)} {k_105 : Hp → Nat → Int32 → Int32 → Int32 → Int32 → Int32 → Option (Hp)} {F : Nat} (mk_2 : ∀ (h : Hp) (x0 : Nat) (x1 : Int32), k_2 h x0 x1 = some o → Le h o) (mk_30 : ∀ (h : Hp) (x0 : Nat) (x1 : Int32) (x2 : Int32) (x3 : Int32), k_30 h x0 x1 x2 x3 = some o → Le h o) (mk_105 : ∀ (h : Hp) (x0 : Nat) (x1 : Int32) (x2 : Int32) (x3 : Int32) (x4 : Int32) (x6 : Int32), k_105 h x0 x1 x2 x3 x4 x6 = some o → Le h o) {h : Hp} {x0 : Nat} {x1 : Int32} {x2 : Int32} {x3 : Int32} {x4 : Int32} {x6 : Int32} (hE : sX0_countAll_132 F k_2 k_30 k_105 h x0 x1 x2 x3 x4 x6 = some o) : Le h o := by
  obtain ⟨v_1, ev_1, hE⟩ := nm_e2 hE
  exact mk_105 _ _ _ _ _ _ _ hE
set_option maxRecDepth 20000 in
theorem moX0_countAll_105 {o : Hp} {k_2 : Hp → Nat → Int32 → Option (Hp)} {k_30 : Hp → Nat → Int32 → Int32 → Int32 → Option (Hp)} {F : Nat} (mk_2 : ∀ (h : Hp) (x0 : Nat) (x1 : Int32), k_2 h x0 x1 = some o → Le h o) (mk_30 : ∀ (h : Hp) (x0 : Nat) (x1 : Int32) (x2 : Int32) (x3 : Int32), k_30 h x0 x1 x2 x3 = some o → Le h o) : ∀ (f : Nat) {h : Hp} {x0 : Nat} {x1 : Int32} {x2 : Int32} {x3 : Int32} {x4 : Int32} {x6 : Int32}, sX0_countAll_105 F k_2 k_30 f h x0 x1 x2 x3 x4 x6 = some o → Le h o := by
  intro f
  induction f with
  | zero =>
    intro h x0 x1 x2 x3 x4 x6 hE
    rw [sX0_countAll_105] at hE
    cases hE
  | succ f ih =>
    intro h x0 x1 x2 x3 x4 x6 hE
    rw [sX0_countAll_105] at hE
    have mk_105 : ∀ (h : Hp) (x0 : Nat) (x1 : Int32) (x2 : Int32) (x3 : Int32) (x4 : Int32) (x6 : Int32), sX0_countAll_105 F k_2 k_30 f h x0 x1 x2 x3 x4 x6 = some o → Le h o := fun h x0 x1 x2 x3 x4 x6 hE => ih hE
    rcases br_e hE with ⟨_, hE⟩ | ⟨_, hE⟩
    · exact moX0_countAll_138 mk_2 mk_30 hE
    · obtain ⟨r_2, er_2, hE⟩ := cl_e hE
      obtain ⟨g_3, hE⟩ := gd_e hE
      rcases br_e hE with ⟨_, hE⟩ | ⟨_, hE⟩
      · exact moX0_countAll_132 mk_2 mk_30 mk_105 hE
      · obtain ⟨o_5, eo_5, hE⟩ := cl_e hE
        refine (moX0_goBack eo_5).tr ?_
        exact moX0_countAll_132 mk_2 mk_30 mk_105 hE
set_option maxRecDepth 20000 in
theorem moX0_countAll_78 {o : Hp} {k_2 : Hp → Nat → Int32 → Option (Hp)} {k_30 : Hp → Nat → Int32 → Int32 → Int32 → Option (Hp)} {F : Nat} (mk_2 : ∀ (h : Hp) (x0 : Nat) (x1 : Int32), k_2 h x0 x1 = some o → Le h o) (mk_30 : ∀ (h : Hp) (x0 : Nat) (x1 : Int32) (x2 : Int32) (x3 : Int32), k_30 h x0 x1 x2 x3 = some o → Le h o) {h : Hp} {x0 : Nat} {x1 : Int32} {x2 : Int32} {x3 : Int32} {x4 : Int32} {t0 : Int32} (hE : sX0_countAll_78 F k_2 k_30 h x0 x1 x2 x3 x4 t0 = some o) : Le h o := by
  rcases br_e hE with ⟨_, hE⟩ | ⟨_, hE⟩
  · exact moX0_countAll_138 mk_2 mk_30 hE
  · obtain ⟨r_2, er_2, hE⟩ := cl_e hE
    obtain ⟨g_3, hE⟩ := gd_e hE
    obtain ⟨o_4, eo_4, hE⟩ := cl_e hE
    refine (moX0_layOut eo_4).tr ?_
    rcases br_e hE with ⟨_, hE⟩ | ⟨_, hE⟩
    · exact moX0_countAll_138 mk_2 mk_30 hE
    · exact moX0_countAll_105 mk_2 mk_30 _ hE
set_option maxRecDepth 20000 in
theorem moX0_countAll_73 {o : Hp} {k_2 : Hp → Nat → Int32 → Option (Hp)} {k_30 : Hp → Nat → Int32 → Int32 → Int32 → Option (Hp)} {F : Nat} (mk_2 : ∀ (h : Hp) (x0 : Nat) (x1 : Int32), k_2 h x0 x1 = some o → Le h o) (mk_30 : ∀ (h : Hp) (x0 : Nat) (x1 : Int32) (x2 : Int32) (x3 : Int32), k_30 h x0 x1 x2 x3 = some o → Le h o) {h : Hp} {x0 : Nat} {x1 : Int32} {x2 : Int32} {x3 : Int32} {x4 : Int32} (hE : sX0_countAll_73 F k_2 k_30 h x0 x1 x2 x3 x4 = some o) : Le h o := by
  exact moX0_countAll_78 mk_2 mk_30 hE
set_option maxRecDepth 20000 in
theorem moX0_countAll_30 {o : Hp} {k_2 : Hp → Nat → Int32 → Option (Hp)} {F : Nat} (mk_2 : ∀ (h : Hp) (x0 : Nat) (x1 : Int32), k_2 h x0 x1 = some o → Le h o) : ∀ (f : Nat) {h : Hp} {x0 : Nat} {x1 : Int32} {x2 : Int32} {x3 : Int32}, sX0_countAll_30 F k_2 f h x0 x1 x2 x3 = some o → Le h o := by
  intro f
  induction f with
  | zero =>
    intro h x0 x1 x2 x3 hE
    rw [sX0_countAll_30] at hE
    cases hE
  | succ f ih =>
    intro h x0 x1 x2 x3 hE
    rw [sX0_countAll_30] at hE
    have mk_30 : ∀ (h : Hp) (x0 : Nat) (x1 : Int32) (x2 : Int32) (x3 : Int32), sX0_countAll_30 F k_2 f h x0 x1 x2 x3 = some o → Le h o := fun h x0 x1 x2 x3 hE => ih hE
    rcases br_e hE with ⟨_, hE⟩ | ⟨_, hE⟩
    · obtain ⟨v_2, ev_2, hE⟩ := nm_e2 hE
      exact mk_2 _ _ _ hE
    · obtain ⟨r_3, er_3, hE⟩ := cl_e hE
      obtain ⟨g_4, hE⟩ := gd_e hE
      obtain ⟨v_5, ev_5, hE⟩ := nm_e2 hE
      obtain ⟨r_6, er_6, hE⟩ := cl_e hE
      obtain ⟨g_7, hE⟩ := gd_e hE
      rcases br_e hE with ⟨_, hE⟩ | ⟨_, hE⟩
      · obtain ⟨r_9, er_9, hE⟩ := cl_e hE
        obtain ⟨g_10, hE⟩ := gd_e hE
        rcases br_e hE with ⟨_, hE⟩ | ⟨_, hE⟩
        · exact moX0_countAll_78 mk_2 mk_30 hE
        · exact moX0_countAll_73 mk_2 mk_30 hE
      · exact moX0_countAll_73 mk_2 mk_30 hE
set_option maxRecDepth 20000 in
theorem moX0_countAll_2 {o : Hp} {F : Nat} : ∀ (f : Nat) {h : Hp} {x0 : Nat} {x1 : Int32}, sX0_countAll_2 F f h x0 x1 = some o → Le h o := by
  intro f
  induction f with
  | zero =>
    intro h x0 x1 hE
    rw [sX0_countAll_2] at hE
    cases hE
  | succ f ih =>
    intro h x0 x1 hE
    rw [sX0_countAll_2] at hE
    have mk_2 : ∀ (h : Hp) (x0 : Nat) (x1 : Int32), sX0_countAll_2 F f h x0 x1 = some o → Le h o := fun h x0 x1 hE => ih hE
    rcases br_e hE with ⟨_, hE⟩ | ⟨_, hE⟩
    · cases hE
      exact Le.rf _
    · obtain ⟨r_2, er_2, hE⟩ := cl_e hE
      obtain ⟨g_3, hE⟩ := gd_e hE
      obtain ⟨r_4, er_4, hE⟩ := cl_e hE
      obtain ⟨g_5, hE⟩ := gd_e hE
      obtain ⟨v_6, ev_6, hE⟩ := nm_e2 hE
      exact moX0_countAll_30 mk_2 _ hE
set_option maxRecDepth 20000 in
theorem moX0_countAll {o : Hp} {F : Nat} {h : Hp} {x0 : Nat} (hE : sX0_countAll F h x0 = some o) : Le h o := by
  exact moX0_countAll_2 _ hE
set_option maxRecDepth 20000 in
theorem bX0_countAll_138 {p : Program} {l : Launch} {e : Env} {s : State} {m : MethodId} {args : Array Value} {below : List Frame} {meth : Method} {c : Code} {X : Ec} {h0 : Hp} {o : Hp} {k_2 : Hp → Nat → Int32 → Option (Hp)} {k_30 : Hp → Nat → Int32 → Int32 → Int32 → Option (Hp)} {F : Nat} (C : Cx X p s m args meth c RX0 cX0_countAll 7 none "countAll") (hk_2 : ∀ (h : Hp) (x0 : Nat) (x1 : Int32) (H : Heap) (locs : List Loc), hK h x0 = 0 → Km h0 h → Wx X h H → va_S (aA (eB X)) s.heap H locs → ∀ (ls : Array Slot), lv_has ls 7 [(0, .ref x0), (1, .int x1)] → k_2 h x0 x1 = some o → W p l e (rm 5 145) s m args below meth c H locs 0 0 (MQ below (QV X h0 o) args s 0 0 (aA (eB X))) (F0 m 2 ls [])) (hk_30 : ∀ (h : Hp) (x0 : Nat) (x1 : Int32) (x2 : Int32) (x3 : Int32) (H : Heap) (locs : List Loc), hK h x0 = 0 → Km h0 h → Wx X h H → va_S (aA (eB X)) s.heap H locs → ∀ (ls : Array Slot), lv_has ls 7 [(0, .ref x0), (1, .int x1), (2, .int x2), (3, .int x3)] → k_30 h x0 x1 x2 x3 = some o → W p l e (rm 5 145) s m args below meth c H locs 0 0 (MQ below (QV X h0 o) args s 0 0 (aA (eB X))) (F0 m 30 ls [])) {h : Hp} {x0 : Nat} {x1 : Int32} {x2 : Int32} {x3 : Int32} {H : Heap} {locs : List Loc} (k_x0 : hK h x0 = 0) (hkm : Km h0 h) (hW : Wx X h H) (hZ : va_S (aA (eB X)) s.heap H locs) (ls : Array Slot) (hl : lv_has ls 7 [(0, .ref x0), (1, .int x1), (2, .int x2), (3, .int x3)]) (hE : sX0_countAll_138 F k_2 k_30 h x0 x1 x2 x3 = some o) : W p l e (rm 5 145) s m args below meth c H locs 0 0 (MQ below (QV X h0 o) args s 0 0 (aA (eB X))) (F0 m 138 ls []) := by
  obtain ⟨v_1, ev_1, hE⟩ := nm_e2 hE
  refine lv_iinc (v := v_1) (lv' := [(3, .int v_1), (0, .ref x0), (1, .int x1), (2, .int x2)]) C.1 C.2.1 dX0_countAll_138 hl (k := 3) rfl (by rw [ev_1]; rfl) (by decide) rfl (fun ls hl => ?_)
  refine lv_goto (tgt := 30) C.1 C.2.1 dX0_countAll_141 (by decide) ?_
  exact hk_30 _ _ _ _ _ _ _ k_x0 hkm hW hZ _ (lv_sub hl [1, 2, 3, 0] rfl) hE
set_option maxRecDepth 20000 in
theorem bX0_countAll_132 {p : Program} {l : Launch} {e : Env} {s : State} {m : MethodId} {args : Array Value} {below : List Frame} {meth : Method} {c : Code} {X : Ec} {h0 : Hp} {o : Hp} {k_2 : Hp → Nat → Int32 → Option (Hp)} {k_30 : Hp → Nat → Int32 → Int32 → Int32 → Option (Hp)} {k_105 : Hp → Nat → Int32 → Int32 → Int32 → Int32 → Int32 → Option (Hp)} {F : Nat} (C : Cx X p s m args meth c RX0 cX0_countAll 7 none "countAll") (hk_2 : ∀ (h : Hp) (x0 : Nat) (x1 : Int32) (H : Heap) (locs : List Loc), hK h x0 = 0 → Km h0 h → Wx X h H → va_S (aA (eB X)) s.heap H locs → ∀ (ls : Array Slot), lv_has ls 7 [(0, .ref x0), (1, .int x1)] → k_2 h x0 x1 = some o → W p l e (rm 5 145) s m args below meth c H locs 0 0 (MQ below (QV X h0 o) args s 0 0 (aA (eB X))) (F0 m 2 ls [])) (hk_30 : ∀ (h : Hp) (x0 : Nat) (x1 : Int32) (x2 : Int32) (x3 : Int32) (H : Heap) (locs : List Loc), hK h x0 = 0 → Km h0 h → Wx X h H → va_S (aA (eB X)) s.heap H locs → ∀ (ls : Array Slot), lv_has ls 7 [(0, .ref x0), (1, .int x1), (2, .int x2), (3, .int x3)] → k_30 h x0 x1 x2 x3 = some o → W p l e (rm 5 145) s m args below meth c H locs 0 0 (MQ below (QV X h0 o) args s 0 0 (aA (eB X))) (F0 m 30 ls [])) (hk_105 : ∀ (h : Hp) (x0 : Nat) (x1 : Int32) (x2 : Int32) (x3 : Int32) (x4 : Int32) (x6 : Int32) (H : Heap) (locs : List Loc), hK h x0 = 0 → Km h0 h → Wx X h H → va_S (aA (eB X)) s.heap H locs → ∀ (ls : Array Slot), lv_has ls 7 [(0, .ref x0), (1, .int x1), (2, .int x2), (3, .int x3), (4, .int x4), (6, .int x6)] → k_105 h x0 x1 x2 x3 x4 x6 = some o → W p l e (rm 5 145) s m args below meth c H locs 0 0 (MQ below (QV X h0 o) args s 0 0 (aA (eB X))) (F0 m 105 ls [])) {h : Hp} {x0 : Nat} {x1 : Int32} {x2 : Int32} {x3 : Int32} {x4 : Int32} {x6 : Int32} {H : Heap} {locs : List Loc} (k_x0 : hK h x0 = 0) (hkm : Km h0 h) (hW : Wx X h H) (hZ : va_S (aA (eB X)) s.heap H locs) (ls : Array Slot) (hl : lv_has ls 7 [(0, .ref x0), (1, .int x1), (2, .int x2), (3, .int x3), (4, .int x4), (6, .int x6)]) (hE : sX0_countAll_132 F k_2 k_30 k_105 h x0 x1 x2 x3 x4 x6 = some o) : W p l e (rm 5 145) s m args below meth c H locs 0 0 (MQ below (QV X h0 o) args s 0 0 (aA (eB X))) (F0 m 132 ls []) := by
  obtain ⟨v_1, ev_1, hE⟩ := nm_e2 hE
  refine lv_iinc (v := v_1) (lv' := [(6, .int v_1), (0, .ref x0), (1, .int x1), (2, .int x2), (3, .int x3), (4, .int x4)]) C.1 C.2.1 dX0_countAll_132 hl (k := 5) rfl (by rw [ev_1]; rfl) (by decide) rfl (fun ls hl => ?_)
  refine lv_goto (tgt := 105) C.1 C.2.1 dX0_countAll_135 (by decide) ?_
  exact hk_105 _ _ _ _ _ _ _ _ _ k_x0 hkm hW hZ _ (lv_sub hl [1, 2, 3, 4, 5, 0] rfl) hE
set_option maxRecDepth 20000 in
theorem bX0_countAll_105 {p : Program} {l : Launch} {e : Env} {s : State} {m : MethodId} {args : Array Value} {below : List Frame} {meth : Method} {c : Code} {X : Ec} {h0 : Hp} {o : Hp} {k_2 : Hp → Nat → Int32 → Option (Hp)} {k_30 : Hp → Nat → Int32 → Int32 → Int32 → Option (Hp)} {F : Nat} (C : Cx X p s m args meth c RX0 cX0_countAll 7 none "countAll") (hk_2 : ∀ (h : Hp) (x0 : Nat) (x1 : Int32) (H : Heap) (locs : List Loc), hK h x0 = 0 → Km h0 h → Wx X h H → va_S (aA (eB X)) s.heap H locs → ∀ (ls : Array Slot), lv_has ls 7 [(0, .ref x0), (1, .int x1)] → k_2 h x0 x1 = some o → W p l e (rm 5 145) s m args below meth c H locs 0 0 (MQ below (QV X h0 o) args s 0 0 (aA (eB X))) (F0 m 2 ls [])) (hk_30 : ∀ (h : Hp) (x0 : Nat) (x1 : Int32) (x2 : Int32) (x3 : Int32) (H : Heap) (locs : List Loc), hK h x0 = 0 → Km h0 h → Wx X h H → va_S (aA (eB X)) s.heap H locs → ∀ (ls : Array Slot), lv_has ls 7 [(0, .ref x0), (1, .int x1), (2, .int x2), (3, .int x3)] → k_30 h x0 x1 x2 x3 = some o → W p l e (rm 5 145) s m args below meth c H locs 0 0 (MQ below (QV X h0 o) args s 0 0 (aA (eB X))) (F0 m 30 ls [])) : ∀ (f : Nat) {h : Hp} {x0 : Nat} {x1 : Int32} {x2 : Int32} {x3 : Int32} {x4 : Int32} {x6 : Int32} {H : Heap} {locs : List Loc} (k_x0 : hK h x0 = 0), Km h0 h → Wx X h H → va_S (aA (eB X)) s.heap H locs → ∀ (ls : Array Slot), lv_has ls 7 [(0, .ref x0), (1, .int x1), (2, .int x2), (3, .int x3), (4, .int x4), (6, .int x6)] → sX0_countAll_105 F k_2 k_30 f h x0 x1 x2 x3 x4 x6 = some o → W p l e (rm 5 145) s m args below meth c H locs 0 0 (MQ below (QV X h0 o) args s 0 0 (aA (eB X))) (F0 m 105 ls []) := by
  intro f
  induction f with
  | zero =>
    intro h x0 x1 x2 x3 x4 x6 H locs k_x0 hkm hW hZ ls hl hE
    rw [sX0_countAll_105] at hE
    cases hE
  | succ f ih =>
    intro h x0 x1 x2 x3 x4 x6 H locs k_x0 hkm hW hZ ls hl hE
    rw [sX0_countAll_105] at hE
    have hk_105 : ∀ (h : Hp) (x0 : Nat) (x1 : Int32) (x2 : Int32) (x3 : Int32) (x4 : Int32) (x6 : Int32) (H : Heap) (locs : List Loc), hK h x0 = 0 → Km h0 h → Wx X h H → va_S (aA (eB X)) s.heap H locs → ∀ (ls : Array Slot), lv_has ls 7 [(0, .ref x0), (1, .int x1), (2, .int x2), (3, .int x3), (4, .int x4), (6, .int x6)] → sX0_countAll_105 F k_2 k_30 f h x0 x1 x2 x3 x4 x6 = some o → W p l e (rm 5 145) s m args below meth c H locs 0 0 (MQ below (QV X h0 o) args s 0 0 (aA (eB X))) (F0 m 105 ls []) := fun h x0 x1 x2 x3 x4 x6 H locs k_x0 a b c ls hl hE => ih k_x0 a b c ls hl hE
    refine lv_iload C.1 C.2.1 dX0_countAll_105 (lv_at hl 5 rfl) ?_
    refine lv_iconst (v := (2 : Int32)) C.1 C.2.1 dX0_countAll_107 (by decide) ?_
    refine lv_icmp_ge (tgt := 138) C.1 C.2.1 dX0_countAll_108 (by decide) (fun c_1 => ?_) (fun c_1 => ?_)
    · have hE := br_p hE c_1
      exact bX0_countAll_138 C hk_2 hk_30 k_x0 hkm hW hZ _ (lv_sub hl [0, 1, 2, 3] rfl) hE
    · have hE := br_n hE c_1
      refine lv_aload_n C.1 C.2.1 dX0_countAll_111 rfl (lv_at hl 0 rfl) ?_
      obtain ⟨r_2, er_2, hE⟩ := cl_e hE
      refine gf_X0_31 C hW k_x0 er_2 dX0_countAll_112 (fun k_r_2 => ?_)
      refine lv_iload C.1 C.2.1 dX0_countAll_115 (lv_at hl 4 rfl) ?_
      refine lv_iload C.1 C.2.1 dX0_countAll_117 (lv_at hl 5 rfl) ?_
      refine lv_iadd C.1 C.2.1 dX0_countAll_119 ?_
      obtain ⟨g_3, hE⟩ := gd_e hE
      refine y_iald C hW k_r_2 g_3 dX0_countAll_120 ?_
      refine lv_ldc (v := (4000000 : Int32)) C.1 C.2.1 C.2.2.2.1 (C.2.2.2.2.1 _ m_1683) dX0_countAll_121 ?_
      refine lv_icmp_eq (tgt := 132) C.1 C.2.1 dX0_countAll_123 (by decide) (fun c_4 => ?_) (fun c_4 => ?_)
      · have hE := br_p hE c_4
        exact bX0_countAll_132 C hk_2 hk_30 hk_105 k_x0 hkm hW hZ _ (lv_sub hl [0, 1, 2, 3, 4, 5] rfl) hE
      · have hE := br_n hE c_4
        refine lv_aload_n C.1 C.2.1 dX0_countAll_126 rfl (lv_at hl 0 rfl) ?_
        refine lv_iload C.1 C.2.1 dX0_countAll_127 (lv_at hl 5 rfl) ?_
        obtain ⟨o_5, eo_5, hE⟩ := cl_e hE
        refine x_kV (o := o_5) (z_runV (As := [.int x6]) (rest := []) C (ct_X0_goBack l X F k_x0 eo_5) cw_X0_119 hW hZ k_x0 (by decide) rfl rfl rfl hl.1 (Nat.le_of_ble_eq_true rfl) rfl dX0_countAll_129 ⟨Nat.le_of_ble_eq_true rfl, Nat.le_of_ble_eq_true rfl⟩ ⟨Nat.le_refl _, Nat.le_refl _⟩) hZ (fun _ _ hW km hZ => ?_)
        replace hkm := hkm.tr km
        replace k_x0 := km.at k_x0 (by decide)
        exact bX0_countAll_132 C hk_2 hk_30 hk_105 k_x0 hkm hW hZ _ (lv_sub hl [0, 1, 2, 3, 4, 5] rfl) hE
set_option maxRecDepth 20000 in
theorem bX0_countAll_78 {p : Program} {l : Launch} {e : Env} {s : State} {m : MethodId} {args : Array Value} {below : List Frame} {meth : Method} {c : Code} {X : Ec} {h0 : Hp} {o : Hp} {k_2 : Hp → Nat → Int32 → Option (Hp)} {k_30 : Hp → Nat → Int32 → Int32 → Int32 → Option (Hp)} {F : Nat} (C : Cx X p s m args meth c RX0 cX0_countAll 7 none "countAll") (hk_2 : ∀ (h : Hp) (x0 : Nat) (x1 : Int32) (H : Heap) (locs : List Loc), hK h x0 = 0 → Km h0 h → Wx X h H → va_S (aA (eB X)) s.heap H locs → ∀ (ls : Array Slot), lv_has ls 7 [(0, .ref x0), (1, .int x1)] → k_2 h x0 x1 = some o → W p l e (rm 5 145) s m args below meth c H locs 0 0 (MQ below (QV X h0 o) args s 0 0 (aA (eB X))) (F0 m 2 ls [])) (hk_30 : ∀ (h : Hp) (x0 : Nat) (x1 : Int32) (x2 : Int32) (x3 : Int32) (H : Heap) (locs : List Loc), hK h x0 = 0 → Km h0 h → Wx X h H → va_S (aA (eB X)) s.heap H locs → ∀ (ls : Array Slot), lv_has ls 7 [(0, .ref x0), (1, .int x1), (2, .int x2), (3, .int x3)] → k_30 h x0 x1 x2 x3 = some o → W p l e (rm 5 145) s m args below meth c H locs 0 0 (MQ below (QV X h0 o) args s 0 0 (aA (eB X))) (F0 m 30 ls [])) {h : Hp} {x0 : Nat} {x1 : Int32} {x2 : Int32} {x3 : Int32} {x4 : Int32} {t0 : Int32} {H : Heap} {locs : List Loc} (k_x0 : hK h x0 = 0) (hkm : Km h0 h) (hW : Wx X h H) (hZ : va_S (aA (eB X)) s.heap H locs) (ls : Array Slot) (hl : lv_has ls 7 [(0, .ref x0), (1, .int x1), (2, .int x2), (3, .int x3), (4, .int x4)]) (hE : sX0_countAll_78 F k_2 k_30 h x0 x1 x2 x3 x4 t0 = some o) : W p l e (rm 5 145) s m args below meth c H locs 0 0 (MQ below (QV X h0 o) args s 0 0 (aA (eB X))) (F0 m 78 ls [.int t0]) := by
  refine lv_istore (lv' := [(5, .int t0), (0, .ref x0), (1, .int x1), (2, .int x2), (3, .int x3), (4, .int x4)]) C.1 C.2.1 dX0_countAll_78 hl (by decide) rfl (fun ls hl => ?_)
  refine lv_iload C.1 C.2.1 dX0_countAll_80 (lv_at hl 0 rfl) ?_
  refine lv_if_eq (tgt := 138) C.1 C.2.1 dX0_countAll_82 (by decide) (fun c_1 => ?_) (fun c_1 => ?_)
  · have hE := br_p hE c_1
    exact bX0_countAll_138 C hk_2 hk_30 k_x0 hkm hW hZ _ (lv_sub hl [1, 2, 3, 4] rfl) hE
  · have hE := br_n hE c_1
    refine lv_aload_n C.1 C.2.1 dX0_countAll_85 rfl (lv_at hl 1 rfl) ?_
    refine lv_aload_n C.1 C.2.1 dX0_countAll_86 rfl (lv_at hl 1 rfl) ?_
    obtain ⟨r_2, er_2, hE⟩ := cl_e hE
    refine gf_X0_18 C hW k_x0 er_2 dX0_countAll_87 (fun k_r_2 => ?_)
    refine lv_iload_n C.1 C.2.1 dX0_countAll_90 rfl (lv_at hl 2 rfl) ?_
    obtain ⟨g_3, hE⟩ := gd_e hE
    refine y_iald C hW k_r_2 g_3 dX0_countAll_91 ?_
    refine lv_iload_n C.1 C.2.1 dX0_countAll_92 rfl (lv_at hl 4 rfl) ?_
    obtain ⟨o_4, eo_4, hE⟩ := cl_e hE
    refine x_kI (o := o_4) (z_runV (As := [.int (hI h r_2 x1.toNatClampNeg), .int x3]) (rest := []) C (ct_X0_layOut l X F k_x0 eo_4) cw_X0_115 hW hZ k_x0 (by decide) rfl rfl rfl hl.1 (Nat.le_of_ble_eq_true rfl) rfl dX0_countAll_93 ⟨Nat.le_of_ble_eq_true rfl, Nat.le_of_ble_eq_true rfl⟩ ⟨Nat.le_refl _, Nat.le_refl _⟩) hZ (fun _ _ hW km hZ => ?_)
    replace hkm := hkm.tr km
    replace k_x0 := km.at k_x0 (by decide)
    refine lv_if_ne (tgt := 102) C.1 C.2.1 dX0_countAll_96 (by decide) (fun c_5 => ?_) (fun c_5 => ?_)
    · have hE := br_n hE c_5
      refine lv_iconst (v := (0 : Int32)) C.1 C.2.1 dX0_countAll_102 (by decide) ?_
      refine lv_istore (lv' := [(6, .int (0 : Int32)), (5, .int t0), (0, .ref x0), (1, .int x1), (2, .int x2), (3, .int x3), (4, .int x4)]) C.1 C.2.1 dX0_countAll_103 hl (by decide) rfl (fun ls hl => ?_)
      exact bX0_countAll_105 C hk_2 hk_30 F k_x0 hkm hW hZ _ (lv_sub hl [2, 3, 4, 5, 6, 0] rfl) hE
    · have hE := br_p hE c_5
      refine lv_goto (tgt := 138) C.1 C.2.1 dX0_countAll_99 (by decide) ?_
      exact bX0_countAll_138 C hk_2 hk_30 k_x0 hkm hW hZ _ (lv_sub hl [1, 2, 3, 4] rfl) hE
set_option maxRecDepth 20000 in
theorem bX0_countAll_73 {p : Program} {l : Launch} {e : Env} {s : State} {m : MethodId} {args : Array Value} {below : List Frame} {meth : Method} {c : Code} {X : Ec} {h0 : Hp} {o : Hp} {k_2 : Hp → Nat → Int32 → Option (Hp)} {k_30 : Hp → Nat → Int32 → Int32 → Int32 → Option (Hp)} {F : Nat} (C : Cx X p s m args meth c RX0 cX0_countAll 7 none "countAll") (hk_2 : ∀ (h : Hp) (x0 : Nat) (x1 : Int32) (H : Heap) (locs : List Loc), hK h x0 = 0 → Km h0 h → Wx X h H → va_S (aA (eB X)) s.heap H locs → ∀ (ls : Array Slot), lv_has ls 7 [(0, .ref x0), (1, .int x1)] → k_2 h x0 x1 = some o → W p l e (rm 5 145) s m args below meth c H locs 0 0 (MQ below (QV X h0 o) args s 0 0 (aA (eB X))) (F0 m 2 ls [])) (hk_30 : ∀ (h : Hp) (x0 : Nat) (x1 : Int32) (x2 : Int32) (x3 : Int32) (H : Heap) (locs : List Loc), hK h x0 = 0 → Km h0 h → Wx X h H → va_S (aA (eB X)) s.heap H locs → ∀ (ls : Array Slot), lv_has ls 7 [(0, .ref x0), (1, .int x1), (2, .int x2), (3, .int x3)] → k_30 h x0 x1 x2 x3 = some o → W p l e (rm 5 145) s m args below meth c H locs 0 0 (MQ below (QV X h0 o) args s 0 0 (aA (eB X))) (F0 m 30 ls [])) {h : Hp} {x0 : Nat} {x1 : Int32} {x2 : Int32} {x3 : Int32} {x4 : Int32} {H : Heap} {locs : List Loc} (k_x0 : hK h x0 = 0) (hkm : Km h0 h) (hW : Wx X h H) (hZ : va_S (aA (eB X)) s.heap H locs) (ls : Array Slot) (hl : lv_has ls 7 [(0, .ref x0), (1, .int x1), (2, .int x2), (3, .int x3), (4, .int x4)]) (hE : sX0_countAll_73 F k_2 k_30 h x0 x1 x2 x3 x4 = some o) : W p l e (rm 5 145) s m args below meth c H locs 0 0 (MQ below (QV X h0 o) args s 0 0 (aA (eB X))) (F0 m 73 ls []) := by
  refine lv_iconst (v := (1 : Int32)) C.1 C.2.1 dX0_countAll_73 (by decide) ?_
  refine lv_goto (tgt := 78) C.1 C.2.1 dX0_countAll_74 (by decide) ?_
  exact bX0_countAll_78 C hk_2 hk_30 k_x0 hkm hW hZ _ (lv_sub hl [0, 1, 2, 3, 4] rfl) hE
set_option maxRecDepth 20000 in
theorem bX0_countAll_30 {p : Program} {l : Launch} {e : Env} {s : State} {m : MethodId} {args : Array Value} {below : List Frame} {meth : Method} {c : Code} {X : Ec} {h0 : Hp} {o : Hp} {k_2 : Hp → Nat → Int32 → Option (Hp)} {F : Nat} (C : Cx X p s m args meth c RX0 cX0_countAll 7 none "countAll") (hk_2 : ∀ (h : Hp) (x0 : Nat) (x1 : Int32) (H : Heap) (locs : List Loc), hK h x0 = 0 → Km h0 h → Wx X h H → va_S (aA (eB X)) s.heap H locs → ∀ (ls : Array Slot), lv_has ls 7 [(0, .ref x0), (1, .int x1)] → k_2 h x0 x1 = some o → W p l e (rm 5 145) s m args below meth c H locs 0 0 (MQ below (QV X h0 o) args s 0 0 (aA (eB X))) (F0 m 2 ls [])) : ∀ (f : Nat) {h : Hp} {x0 : Nat} {x1 : Int32} {x2 : Int32} {x3 : Int32} {H : Heap} {locs : List Loc} (k_x0 : hK h x0 = 0), Km h0 h → Wx X h H → va_S (aA (eB X)) s.heap H locs → ∀ (ls : Array Slot), lv_has ls 7 [(0, .ref x0), (1, .int x1), (2, .int x2), (3, .int x3)] → sX0_countAll_30 F k_2 f h x0 x1 x2 x3 = some o → W p l e (rm 5 145) s m args below meth c H locs 0 0 (MQ below (QV X h0 o) args s 0 0 (aA (eB X))) (F0 m 30 ls []) := by
  intro f
  induction f with
  | zero =>
    intro h x0 x1 x2 x3 H locs k_x0 hkm hW hZ ls hl hE
    rw [sX0_countAll_30] at hE
    cases hE
  | succ f ih =>
    intro h x0 x1 x2 x3 H locs k_x0 hkm hW hZ ls hl hE
    rw [sX0_countAll_30] at hE
    have hk_30 : ∀ (h : Hp) (x0 : Nat) (x1 : Int32) (x2 : Int32) (x3 : Int32) (H : Heap) (locs : List Loc), hK h x0 = 0 → Km h0 h → Wx X h H → va_S (aA (eB X)) s.heap H locs → ∀ (ls : Array Slot), lv_has ls 7 [(0, .ref x0), (1, .int x1), (2, .int x2), (3, .int x3)] → sX0_countAll_30 F k_2 f h x0 x1 x2 x3 = some o → W p l e (rm 5 145) s m args below meth c H locs 0 0 (MQ below (QV X h0 o) args s 0 0 (aA (eB X))) (F0 m 30 ls []) := fun h x0 x1 x2 x3 H locs k_x0 a b c ls hl hE => ih k_x0 a b c ls hl hE
    refine lv_iload_n C.1 C.2.1 dX0_countAll_30 rfl (lv_at hl 3 rfl) ?_
    refine lv_iload_n C.1 C.2.1 dX0_countAll_31 rfl (lv_at hl 2 rfl) ?_
    refine lv_icmp_ge (tgt := 144) C.1 C.2.1 dX0_countAll_32 (by decide) (fun c_1 => ?_) (fun c_1 => ?_)
    · have hE := br_p hE c_1
      obtain ⟨v_2, ev_2, hE⟩ := nm_e2 hE
      refine lv_iinc (v := v_2) (lv' := [(1, .int v_2), (0, .ref x0), (2, .int x2), (3, .int x3)]) C.1 C.2.1 dX0_countAll_144 hl (k := 1) rfl (by rw [ev_2]; rfl) (by decide) rfl (fun ls hl => ?_)
      refine lv_goto (tgt := 2) C.1 C.2.1 dX0_countAll_147 (by decide) ?_
      exact hk_2 _ _ _ _ _ k_x0 hkm hW hZ _ (lv_sub hl [1, 0] rfl) hE
    · have hE := br_n hE c_1
      refine lv_aload_n C.1 C.2.1 dX0_countAll_35 rfl (lv_at hl 0 rfl) ?_
      obtain ⟨r_3, er_3, hE⟩ := cl_e hE
      refine gf_X0_22 C hW k_x0 er_3 dX0_countAll_36 (fun k_r_3 => ?_)
      refine lv_iload_n C.1 C.2.1 dX0_countAll_39 rfl (lv_at hl 1 rfl) ?_
      obtain ⟨g_4, hE⟩ := gd_e hE
      refine y_iald C hW k_r_3 g_4 dX0_countAll_40 ?_
      refine lv_iconst (v := (2 : Int32)) C.1 C.2.1 dX0_countAll_41 (by decide) ?_
      refine lv_iload_n C.1 C.2.1 dX0_countAll_42 rfl (lv_at hl 3 rfl) ?_
      refine lv_imul C.1 C.2.1 dX0_countAll_43 ?_
      refine lv_iadd C.1 C.2.1 dX0_countAll_44 ?_
      obtain ⟨v_5, ev_5, hE⟩ := nm_e2 hE
      refine x_nmI ev_5 ?_
      refine lv_istore (lv' := [(4, .int v_5), (0, .ref x0), (1, .int x1), (2, .int x2), (3, .int x3)]) C.1 C.2.1 dX0_countAll_45 hl (by decide) rfl (fun ls hl => ?_)
      refine lv_aload_n C.1 C.2.1 dX0_countAll_47 rfl (lv_at hl 1 rfl) ?_
      obtain ⟨r_6, er_6, hE⟩ := cl_e hE
      refine gf_X0_31 C hW k_x0 er_6 dX0_countAll_48 (fun k_r_6 => ?_)
      refine lv_iload C.1 C.2.1 dX0_countAll_51 (lv_at hl 0 rfl) ?_
      obtain ⟨g_7, hE⟩ := gd_e hE
      refine y_iald C hW k_r_6 g_7 dX0_countAll_53 ?_
      refine lv_ldc (v := (4000000 : Int32)) C.1 C.2.1 C.2.2.2.1 (C.2.2.2.2.1 _ m_1683) dX0_countAll_54 ?_
      refine lv_icmp_ne (tgt := 73) C.1 C.2.1 dX0_countAll_56 (by decide) (fun c_8 => ?_) (fun c_8 => ?_)
      · have hE := br_n hE c_8
        exact bX0_countAll_73 C hk_2 hk_30 k_x0 hkm hW hZ _ (lv_sub hl [1, 2, 3, 4, 0] rfl) hE
      · have hE := br_p hE c_8
        refine lv_aload_n C.1 C.2.1 dX0_countAll_59 rfl (lv_at hl 1 rfl) ?_
        obtain ⟨r_9, er_9, hE⟩ := cl_e hE
        refine gf_X0_31 C hW k_x0 er_9 dX0_countAll_60 (fun k_r_9 => ?_)
        refine lv_iload C.1 C.2.1 dX0_countAll_63 (lv_at hl 0 rfl) ?_
        refine lv_iconst (v := (1 : Int32)) C.1 C.2.1 dX0_countAll_65 (by decide) ?_
        refine lv_iadd C.1 C.2.1 dX0_countAll_66 ?_
        obtain ⟨g_10, hE⟩ := gd_e hE
        refine y_iald C hW k_r_9 g_10 dX0_countAll_67 ?_
        refine lv_ldc (v := (4000000 : Int32)) C.1 C.2.1 C.2.2.2.1 (C.2.2.2.2.1 _ m_1683) dX0_countAll_68 ?_
        refine lv_icmp_eq (tgt := 77) C.1 C.2.1 dX0_countAll_70 (by decide) (fun c_11 => ?_) (fun c_11 => ?_)
        · have hE := br_p hE c_11
          refine lv_iconst (v := (0 : Int32)) C.1 C.2.1 dX0_countAll_77 (by decide) ?_
          exact bX0_countAll_78 C hk_2 hk_30 k_x0 hkm hW hZ _ (lv_sub hl [1, 2, 3, 4, 0] rfl) hE
        · have hE := br_n hE c_11
          exact bX0_countAll_73 C hk_2 hk_30 k_x0 hkm hW hZ _ (lv_sub hl [1, 2, 3, 4, 0] rfl) hE
set_option maxRecDepth 20000 in
theorem bX0_countAll_2 {p : Program} {l : Launch} {e : Env} {s : State} {m : MethodId} {args : Array Value} {below : List Frame} {meth : Method} {c : Code} {X : Ec} {h0 : Hp} {o : Hp} {F : Nat} (C : Cx X p s m args meth c RX0 cX0_countAll 7 none "countAll") : ∀ (f : Nat) {h : Hp} {x0 : Nat} {x1 : Int32} {H : Heap} {locs : List Loc} (k_x0 : hK h x0 = 0), Km h0 h → Wx X h H → va_S (aA (eB X)) s.heap H locs → ∀ (ls : Array Slot), lv_has ls 7 [(0, .ref x0), (1, .int x1)] → sX0_countAll_2 F f h x0 x1 = some o → W p l e (rm 5 145) s m args below meth c H locs 0 0 (MQ below (QV X h0 o) args s 0 0 (aA (eB X))) (F0 m 2 ls []) := by
  intro f
  induction f with
  | zero =>
    intro h x0 x1 H locs k_x0 hkm hW hZ ls hl hE
    rw [sX0_countAll_2] at hE
    cases hE
  | succ f ih =>
    intro h x0 x1 H locs k_x0 hkm hW hZ ls hl hE
    rw [sX0_countAll_2] at hE
    have hk_2 : ∀ (h : Hp) (x0 : Nat) (x1 : Int32) (H : Heap) (locs : List Loc), hK h x0 = 0 → Km h0 h → Wx X h H → va_S (aA (eB X)) s.heap H locs → ∀ (ls : Array Slot), lv_has ls 7 [(0, .ref x0), (1, .int x1)] → sX0_countAll_2 F f h x0 x1 = some o → W p l e (rm 5 145) s m args below meth c H locs 0 0 (MQ below (QV X h0 o) args s 0 0 (aA (eB X))) (F0 m 2 ls []) := fun h x0 x1 H locs k_x0 a b c ls hl hE => ih k_x0 a b c ls hl hE
    refine lv_iload_n C.1 C.2.1 dX0_countAll_2 rfl (lv_at hl 1 rfl) ?_
    refine lv_aload_n C.1 C.2.1 dX0_countAll_3 rfl (lv_at hl 0 rfl) ?_
    refine gf_X0_128 C hW k_x0 dX0_countAll_4 ?_
    refine lv_icmp_ge (tgt := 150) C.1 C.2.1 dX0_countAll_7 (by decide) (fun c_1 => ?_) (fun c_1 => ?_)
    · have hE := br_p hE c_1
      exact x_vret C rfl hW hZ hkm hE dX0_countAll_150
    · have hE := br_n hE c_1
      refine lv_aload_n C.1 C.2.1 dX0_countAll_10 rfl (lv_at hl 0 rfl) ?_
      obtain ⟨r_2, er_2, hE⟩ := cl_e hE
      refine gf_X0_22 C hW k_x0 er_2 dX0_countAll_11 (fun k_r_2 => ?_)
      refine lv_iload_n C.1 C.2.1 dX0_countAll_14 rfl (lv_at hl 1 rfl) ?_
      refine lv_iconst (v := (1 : Int32)) C.1 C.2.1 dX0_countAll_15 (by decide) ?_
      refine lv_iadd C.1 C.2.1 dX0_countAll_16 ?_
      obtain ⟨g_3, hE⟩ := gd_e hE
      refine y_iald C hW k_r_2 g_3 dX0_countAll_17 ?_
      refine lv_aload_n C.1 C.2.1 dX0_countAll_18 rfl (lv_at hl 0 rfl) ?_
      obtain ⟨r_4, er_4, hE⟩ := cl_e hE
      refine gf_X0_22 C hW k_x0 er_4 dX0_countAll_19 (fun k_r_4 => ?_)
      refine lv_iload_n C.1 C.2.1 dX0_countAll_22 rfl (lv_at hl 1 rfl) ?_
      obtain ⟨g_5, hE⟩ := gd_e hE
      refine y_iald C hW k_r_4 g_5 dX0_countAll_23 ?_
      refine lv_isub C.1 C.2.1 dX0_countAll_24 ?_
      refine lv_iconst (v := (1 : Int32)) C.1 C.2.1 dX0_countAll_25 (by decide) ?_
      refine lv_ishr C.1 C.2.1 dX0_countAll_26 ?_
      obtain ⟨v_6, ev_6, hE⟩ := nm_e2 hE
      refine x_nmI ev_6 ?_
      refine lv_istore_n (lv' := [(2, .int v_6), (0, .ref x0), (1, .int x1)]) C.1 C.2.1 dX0_countAll_27 rfl hl (by decide) rfl (fun ls hl => ?_)
      refine lv_iconst (v := (0 : Int32)) C.1 C.2.1 dX0_countAll_28 (by decide) ?_
      refine lv_istore_n (lv' := [(3, .int (0 : Int32)), (2, .int v_6), (0, .ref x0), (1, .int x1)]) C.1 C.2.1 dX0_countAll_29 rfl hl (by decide) rfl (fun ls hl => ?_)
      exact bX0_countAll_30 C hk_2 F k_x0 hkm hW hZ _ (lv_sub hl [2, 3, 1, 0] rfl) hE
set_option maxRecDepth 20000 in
theorem ct_X0_countAll (l : Launch) (X : Ec) (F : Nat) {h : Hp} {x0 : Nat} {o : Hp} (k_x0 : hK h x0 = 0) (hE : sX0_countAll F h x0 = some o) : MetV l yX0_countAll cX0_countAll 7 none 5 145 X [.ref x0] h o := by
  refine x_met (by decide) (Nat.le_of_ble_eq_true rfl) ?_
  intro p e s m below meth c ls C hl hW hZ
  have hl : lv_has ls 7 [(0, .ref x0)] := hl
  have hkm : Km h h := Km.rf h
  refine lv_iconst (v := (0 : Int32)) C.1 C.2.1 dX0_countAll_0 (by decide) ?_
  refine lv_istore_n (lv' := [(1, .int (0 : Int32)), (0, .ref x0)]) C.1 C.2.1 dX0_countAll_1 rfl hl (by decide) rfl (fun ls hl => ?_)
  exact bX0_countAll_2 C F k_x0 hkm hW hZ _ (lv_sub hl [1, 0] rfl) hE
theorem dX0_settleCount_0 : decode cX0_settleCount 0 = .ok (.aload_n 0, 1) := by decide +kernel
theorem dX0_settleCount_1 : decode cX0_settleCount 1 = .ok (.getfield 34, 3) := by decide +kernel
theorem dX0_settleCount_4 : decode cX0_settleCount 4 = .ok (.iload_n 1, 1) := by decide +kernel
theorem dX0_settleCount_5 : decode cX0_settleCount 5 = .ok (.iaload, 1) := by decide +kernel
theorem dX0_settleCount_6 : decode cX0_settleCount 6 = .ok (.sipush 4096, 3) := by decide +kernel
theorem dX0_settleCount_9 : decode cX0_settleCount 9 = .ok (.idiv, 1) := by decide +kernel
theorem dX0_settleCount_10 : decode cX0_settleCount 10 = .ok (.istore_n 2, 1) := by decide +kernel
theorem dX0_settleCount_11 : decode cX0_settleCount 11 = .ok (.aload_n 0, 1) := by decide +kernel
theorem dX0_settleCount_12 : decode cX0_settleCount 12 = .ok (.getfield 34, 3) := by decide +kernel
theorem dX0_settleCount_15 : decode cX0_settleCount 15 = .ok (.iload_n 1, 1) := by decide +kernel
theorem dX0_settleCount_16 : decode cX0_settleCount 16 = .ok (.iaload, 1) := by decide +kernel
theorem dX0_settleCount_17 : decode cX0_settleCount 17 = .ok (.sipush 4095, 3) := by decide +kernel
theorem dX0_settleCount_20 : decode cX0_settleCount 20 = .ok (.iand, 1) := by decide +kernel
theorem dX0_settleCount_21 : decode cX0_settleCount 21 = .ok (.istore_n 3, 1) := by decide +kernel
theorem dX0_settleCount_22 : decode cX0_settleCount 22 = .ok (.aload_n 0, 1) := by decide +kernel
theorem dX0_settleCount_23 : decode cX0_settleCount 23 = .ok (.getfield 34, 3) := by decide +kernel
theorem dX0_settleCount_26 : decode cX0_settleCount 26 = .ok (.iload_n 1, 1) := by decide +kernel
theorem dX0_settleCount_27 : decode cX0_settleCount 27 = .ok (.aload_n 0, 1) := by decide +kernel
theorem dX0_settleCount_28 : decode cX0_settleCount 28 = .ok (.getfield 40, 3) := by decide +kernel
theorem dX0_settleCount_31 : decode cX0_settleCount 31 = .ok (.iconst 2, 1) := by decide +kernel
theorem dX0_settleCount_32 : decode cX0_settleCount 32 = .ok (.invokevirtual 220, 3) := by decide +kernel
theorem dX0_settleCount_35 : decode cX0_settleCount 35 = .ok (.ifCond .eq 14, 3) := by decide +kernel
theorem dX0_settleCount_38 : decode cX0_settleCount 38 = .ok (.iload_n 2, 1) := by decide +kernel
theorem dX0_settleCount_39 : decode cX0_settleCount 39 = .ok (.ifCond .le 10, 3) := by decide +kernel
theorem dX0_settleCount_42 : decode cX0_settleCount 42 = .ok (.iload_n 2, 1) := by decide +kernel
theorem dX0_settleCount_43 : decode cX0_settleCount 43 = .ok (.ldc 223, 2) := by decide +kernel
theorem dX0_settleCount_45 : decode cX0_settleCount 45 = .ok (.ior, 1) := by decide +kernel
theorem dX0_settleCount_46 : decode cX0_settleCount 46 = .ok (.goto 6, 3) := by decide +kernel
theorem dX0_settleCount_49 : decode cX0_settleCount 49 = .ok (.iload_n 2, 1) := by decide +kernel
theorem dX0_settleCount_50 : decode cX0_settleCount 50 = .ok (.iload_n 3, 1) := by decide +kernel
theorem dX0_settleCount_51 : decode cX0_settleCount 51 = .ok (.iadd, 1) := by decide +kernel
theorem dX0_settleCount_52 : decode cX0_settleCount 52 = .ok (.iastore, 1) := by decide +kernel
theorem dX0_settleCount_53 : decode cX0_settleCount 53 = .ok (.return_, 1) := by decide +kernel
def sX0_settleCount_52 (h : Hp) (t0 : Int32) (t1 : Int32) (t2 : Nat) : Option (Hp) := gd (inB t1 (hN h t2)) <| nm (wI h t2 t1.toNatClampNeg t0) fun h_2 => some h_2
def sX0_settleCount_49 (h : Hp) (x2 : Int32) (x3 : Int32) (t0 : Int32) (t1 : Nat) : Option (Hp) := sX0_settleCount_52  h (x2 + x3) t0 t1
def sX0_settleCount (h : Hp) (x0 : Nat) (x1 : Int32) : Option (Hp) := cl (hR h x0 12) fun r_1 => gd (inB x1 (hN h r_1)) <| nm ((hI h r_1 x1.toNatClampNeg) / (4096 : Int32)) fun v_3 => cl (hR h x0 12) fun r_4 => gd (inB x1 (hN h r_4)) <| nm ((hI h r_4 x1.toNatClampNeg) &&& (4095 : Int32)) fun v_6 => cl (hR h x0 12) fun r_7 => cl (hR h x0 0) fun r_8 => cl (sX1_has h r_8 (2 : Int32)) fun o_9 => br (o_9.1 = 0) (sX0_settleCount_49  o_9.2 v_3 v_6 x1 r_7) (br (v_3 ≤ 0) (sX0_settleCount_49  o_9.2 v_3 v_6 x1 r_7) (sX0_settleCount_52  o_9.2 (v_3 ||| (16777216 : Int32)) x1 r_7))
set_option maxRecDepth 20000 in
theorem moX0_settleCount_52 {o : Hp} {h : Hp} {t0 : Int32} {t1 : Int32} {t2 : Nat} (hE : sX0_settleCount_52 h  t0 t1 t2 = some o) : Le h o := by
  obtain ⟨g_1, hE⟩ := gd_e hE
  obtain ⟨h_2, eh_2, hE⟩ := nm_e2 hE
  refine (le_I eh_2).tr ?_
  cases hE
  exact Le.rf _
set_option maxRecDepth 20000 in
theorem moX0_settleCount_49 {o : Hp} {h : Hp} {x2 : Int32} {x3 : Int32} {t0 : Int32} {t1 : Nat} (hE : sX0_settleCount_49 h x2 x3 t0 t1 = some o) : Le h o := by
  exact moX0_settleCount_52 hE
set_option maxRecDepth 20000 in
theorem moX0_settleCount {o : Hp} {h : Hp} {x0 : Nat} {x1 : Int32} (hE : sX0_settleCount h x0 x1 = some o) : Le h o := by
  obtain ⟨r_1, er_1, hE⟩ := cl_e hE
  obtain ⟨g_2, hE⟩ := gd_e hE
  obtain ⟨v_3, ev_3, hE⟩ := nm_e2 hE
  obtain ⟨r_4, er_4, hE⟩ := cl_e hE
  obtain ⟨g_5, hE⟩ := gd_e hE
  obtain ⟨v_6, ev_6, hE⟩ := nm_e2 hE
  obtain ⟨r_7, er_7, hE⟩ := cl_e hE
  obtain ⟨r_8, er_8, hE⟩ := cl_e hE
  obtain ⟨o_9, eo_9, hE⟩ := cl_e hE
  refine (moX1_has eo_9).tr ?_
  rcases br_e hE with ⟨_, hE⟩ | ⟨_, hE⟩
  · exact moX0_settleCount_49 hE
  · rcases br_e hE with ⟨_, hE⟩ | ⟨_, hE⟩
    · exact moX0_settleCount_49 hE
    · exact moX0_settleCount_52 hE
set_option maxRecDepth 20000 in
theorem bX0_settleCount_52 {p : Program} {l : Launch} {e : Env} {s : State} {m : MethodId} {args : Array Value} {below : List Frame} {meth : Method} {c : Code} {X : Ec} {h0 : Hp} {o : Hp} (C : Cx X p s m args meth c RX0 cX0_settleCount 4 none "settleCount") {h : Hp} {t0 : Int32} {t1 : Int32} {t2 : Nat} {H : Heap} {locs : List Loc} (k_t2 : hK h t2 = 17) (hkm : Km h0 h) (hW : Wx X h H) (hZ : va_S (aA (eB X)) s.heap H locs) (ls : Array Slot) (hl : lv_has ls 4 []) (hE : sX0_settleCount_52 h  t0 t1 t2 = some o) : W p l e (rm 1 21) s m args below meth c H locs 0 0 (MQ below (QV X h0 o) args s 0 0 (aA (eB X))) (F0 m 52 ls [.int t0, .int t1, .ref t2]) := by
  obtain ⟨g_1, hE⟩ := gd_e hE
  obtain ⟨h_2, eh_2, hE⟩ := nm_e2 hE
  refine y_iast C hW hZ k_t2 g_1 eh_2 dX0_settleCount_52 (fun _ _ hW km hZ => ?_)
  replace hkm := hkm.tr km
  exact x_vret C rfl hW hZ hkm hE dX0_settleCount_53
set_option maxRecDepth 20000 in
theorem bX0_settleCount_49 {p : Program} {l : Launch} {e : Env} {s : State} {m : MethodId} {args : Array Value} {below : List Frame} {meth : Method} {c : Code} {X : Ec} {h0 : Hp} {o : Hp} (C : Cx X p s m args meth c RX0 cX0_settleCount 4 none "settleCount") {h : Hp} {x2 : Int32} {x3 : Int32} {t0 : Int32} {t1 : Nat} {H : Heap} {locs : List Loc} (k_t1 : hK h t1 = 17) (hkm : Km h0 h) (hW : Wx X h H) (hZ : va_S (aA (eB X)) s.heap H locs) (ls : Array Slot) (hl : lv_has ls 4 [(2, .int x2), (3, .int x3)]) (hE : sX0_settleCount_49 h x2 x3 t0 t1 = some o) : W p l e (rm 1 21) s m args below meth c H locs 0 0 (MQ below (QV X h0 o) args s 0 0 (aA (eB X))) (F0 m 49 ls [.int t0, .ref t1]) := by
  refine lv_iload_n C.1 C.2.1 dX0_settleCount_49 rfl (lv_at hl 0 rfl) ?_
  refine lv_iload_n C.1 C.2.1 dX0_settleCount_50 rfl (lv_at hl 1 rfl) ?_
  refine lv_iadd C.1 C.2.1 dX0_settleCount_51 ?_
  exact bX0_settleCount_52 C k_t1 hkm hW hZ _ (lv_sub hl [] rfl) hE
set_option maxRecDepth 20000 in
theorem ct_X0_settleCount (l : Launch) (X : Ec) {h : Hp} {x0 : Nat} {x1 : Int32} {o : Hp} (k_x0 : hK h x0 = 0) (hE : sX0_settleCount h x0 x1 = some o) : MetV l yX0_settleCount cX0_settleCount 4 none 1 21 X [.ref x0, .int x1] h o := by
  refine x_met (by decide) (Nat.le_of_ble_eq_true rfl) ?_
  intro p e s m below meth c ls C hl hW hZ
  have hl : lv_has ls 4 [(0, .ref x0), (1, .int x1)] := hl
  have hkm : Km h h := Km.rf h
  refine lv_aload_n C.1 C.2.1 dX0_settleCount_0 rfl (lv_at hl 0 rfl) ?_
  obtain ⟨r_1, er_1, hE⟩ := cl_e hE
  refine gf_X0_34 C hW k_x0 er_1 dX0_settleCount_1 (fun k_r_1 => ?_)
  refine lv_iload_n C.1 C.2.1 dX0_settleCount_4 rfl (lv_at hl 1 rfl) ?_
  obtain ⟨g_2, hE⟩ := gd_e hE
  refine y_iald C hW k_r_1 g_2 dX0_settleCount_5 ?_
  refine lv_sipush (v := (4096 : Int32)) C.1 C.2.1 dX0_settleCount_6 (by decide) ?_
  refine lv_idiv C.1 C.2.1 dX0_settleCount_9 (by decide) ?_
  obtain ⟨v_3, ev_3, hE⟩ := nm_e2 hE
  refine x_nmI ev_3 ?_
  refine lv_istore_n (lv' := [(2, .int v_3), (0, .ref x0), (1, .int x1)]) C.1 C.2.1 dX0_settleCount_10 rfl hl (by decide) rfl (fun ls hl => ?_)
  refine lv_aload_n C.1 C.2.1 dX0_settleCount_11 rfl (lv_at hl 1 rfl) ?_
  obtain ⟨r_4, er_4, hE⟩ := cl_e hE
  refine gf_X0_34 C hW k_x0 er_4 dX0_settleCount_12 (fun k_r_4 => ?_)
  refine lv_iload_n C.1 C.2.1 dX0_settleCount_15 rfl (lv_at hl 2 rfl) ?_
  obtain ⟨g_5, hE⟩ := gd_e hE
  refine y_iald C hW k_r_4 g_5 dX0_settleCount_16 ?_
  refine lv_sipush (v := (4095 : Int32)) C.1 C.2.1 dX0_settleCount_17 (by decide) ?_
  refine lv_iand C.1 C.2.1 dX0_settleCount_20 ?_
  obtain ⟨v_6, ev_6, hE⟩ := nm_e2 hE
  refine x_nmI ev_6 ?_
  refine lv_istore_n (lv' := [(3, .int v_6), (2, .int v_3), (0, .ref x0), (1, .int x1)]) C.1 C.2.1 dX0_settleCount_21 rfl hl (by decide) rfl (fun ls hl => ?_)
  refine lv_aload_n C.1 C.2.1 dX0_settleCount_22 rfl (lv_at hl 2 rfl) ?_
  obtain ⟨r_7, er_7, hE⟩ := cl_e hE
  refine gf_X0_34 C hW k_x0 er_7 dX0_settleCount_23 (fun k_r_7 => ?_)
  refine lv_iload_n C.1 C.2.1 dX0_settleCount_26 rfl (lv_at hl 3 rfl) ?_
  refine lv_aload_n C.1 C.2.1 dX0_settleCount_27 rfl (lv_at hl 2 rfl) ?_
  obtain ⟨r_8, er_8, hE⟩ := cl_e hE
  refine gf_X0_40 C hW k_x0 er_8 dX0_settleCount_28 (fun k_r_8 => ?_)
  refine lv_iconst (v := (2 : Int32)) C.1 C.2.1 dX0_settleCount_31 (by decide) ?_
  obtain ⟨o_9, eo_9, hE⟩ := cl_e hE
  refine x_kI (o := o_9) (z_runV (As := [.int (2 : Int32)]) (rest := [.int x1, .ref r_7]) C (ct_X1_has l X k_r_8 eo_9) cw_X0_220 hW hZ k_r_8 (by decide) rfl rfl rfl hl.1 (Nat.le_of_ble_eq_true rfl) rfl dX0_settleCount_32 ⟨Nat.le_of_ble_eq_true rfl, Nat.le_of_ble_eq_true rfl⟩ ⟨Nat.le_refl _, Nat.le_refl _⟩) hZ (fun _ _ hW km hZ => ?_)
  replace hkm := hkm.tr km
  replace k_x0 := km.at k_x0 (by decide)
  replace k_r_7 := km.at k_r_7 (by decide)
  refine lv_if_eq (tgt := 49) C.1 C.2.1 dX0_settleCount_35 (by decide) (fun c_10 => ?_) (fun c_10 => ?_)
  · have hE := br_p hE c_10
    exact bX0_settleCount_49 C k_r_7 hkm hW hZ _ (lv_sub hl [1, 0] rfl) hE
  · have hE := br_n hE c_10
    refine lv_iload_n C.1 C.2.1 dX0_settleCount_38 rfl (lv_at hl 1 rfl) ?_
    refine lv_if_le (tgt := 49) C.1 C.2.1 dX0_settleCount_39 (by decide) (fun c_11 => ?_) (fun c_11 => ?_)
    · have hE := br_p hE c_11
      exact bX0_settleCount_49 C k_r_7 hkm hW hZ _ (lv_sub hl [1, 0] rfl) hE
    · have hE := br_n hE c_11
      refine lv_iload_n C.1 C.2.1 dX0_settleCount_42 rfl (lv_at hl 1 rfl) ?_
      refine lv_ldc (v := (16777216 : Int32)) C.1 C.2.1 C.2.2.2.1 (C.2.2.2.2.1 _ m_1739) dX0_settleCount_43 ?_
      refine lv_ior C.1 C.2.1 dX0_settleCount_45 ?_
      refine lv_goto (tgt := 52) C.1 C.2.1 dX0_settleCount_46 (by decide) ?_
      exact bX0_settleCount_52 C k_r_7 hkm hW hZ _ (lv_sub hl [] rfl) hE
theorem ms_111 : Cond.selects RX0 yX0_settleCount yX0_settleCount ∈ W0 := w0_in (List.mem_append_left _ (List.mem_of_getElem? (i := 111) (by decide +kernel))) rfl
theorem m_1750 : Cond.methodLink RX0 214 yX0_settleCount ∈ W0 := w0_in (List.mem_append_right _ (List.mem_of_getElem? (i := 1750) (by decide +kernel))) rfl
theorem m_1752 : Cond.instanceMethod yX0_settleCount ∈ W0 := w0_in (List.mem_append_right _ (List.mem_of_getElem? (i := 1752) (by decide +kernel))) rfl
theorem m_1753 : Cond.code yX0_settleCount cX0_settleCount 4 none ∈ W0 := w0_in (List.mem_append_right _ (List.mem_of_getElem? (i := 1753) (by decide +kernel))) rfl
theorem cw_X0_214 : cwd RX0 214 yX0_settleCount cX0_settleCount 4 none false 1 := ⟨m_1753, m_1750, m_13, ⟨m_1752, ms_111⟩, by decide, by decide, by decide +kernel⟩
theorem dX0_queueEnds_0 : decode cX0_queueEnds 0 = .ok (.iconst 0, 1) := by decide +kernel
theorem dX0_queueEnds_1 : decode cX0_queueEnds 1 = .ok (.istore_n 1, 1) := by decide +kernel
theorem dX0_queueEnds_2 : decode cX0_queueEnds 2 = .ok (.iload_n 1, 1) := by decide +kernel
theorem dX0_queueEnds_3 : decode cX0_queueEnds 3 = .ok (.aload_n 0, 1) := by decide +kernel
theorem dX0_queueEnds_4 : decode cX0_queueEnds 4 = .ok (.getfield 128, 3) := by decide +kernel
theorem dX0_queueEnds_7 : decode cX0_queueEnds 7 = .ok (.if_icmp .ge 188, 3) := by decide +kernel
theorem dX0_queueEnds_10 : decode cX0_queueEnds 10 = .ok (.aload_n 0, 1) := by decide +kernel
theorem dX0_queueEnds_11 : decode cX0_queueEnds 11 = .ok (.getfield 22, 3) := by decide +kernel
theorem dX0_queueEnds_14 : decode cX0_queueEnds 14 = .ok (.iload_n 1, 1) := by decide +kernel
theorem dX0_queueEnds_15 : decode cX0_queueEnds 15 = .ok (.iaload, 1) := by decide +kernel
theorem dX0_queueEnds_16 : decode cX0_queueEnds 16 = .ok (.istore_n 2, 1) := by decide +kernel
theorem dX0_queueEnds_17 : decode cX0_queueEnds 17 = .ok (.iload_n 2, 1) := by decide +kernel
theorem dX0_queueEnds_18 : decode cX0_queueEnds 18 = .ok (.aload_n 0, 1) := by decide +kernel
theorem dX0_queueEnds_19 : decode cX0_queueEnds 19 = .ok (.getfield 22, 3) := by decide +kernel
theorem dX0_queueEnds_22 : decode cX0_queueEnds 22 = .ok (.iload_n 1, 1) := by decide +kernel
theorem dX0_queueEnds_23 : decode cX0_queueEnds 23 = .ok (.iconst 1, 1) := by decide +kernel
theorem dX0_queueEnds_24 : decode cX0_queueEnds 24 = .ok (.iadd, 1) := by decide +kernel
theorem dX0_queueEnds_25 : decode cX0_queueEnds 25 = .ok (.iaload, 1) := by decide +kernel
theorem dX0_queueEnds_26 : decode cX0_queueEnds 26 = .ok (.if_icmp .ge 163, 3) := by decide +kernel
theorem dX0_queueEnds_29 : decode cX0_queueEnds 29 = .ok (.aload_n 0, 1) := by decide +kernel
theorem dX0_queueEnds_30 : decode cX0_queueEnds 30 = .ok (.getfield 31, 3) := by decide +kernel
theorem dX0_queueEnds_33 : decode cX0_queueEnds 33 = .ok (.iload_n 2, 1) := by decide +kernel
theorem dX0_queueEnds_34 : decode cX0_queueEnds 34 = .ok (.iaload, 1) := by decide +kernel
theorem dX0_queueEnds_35 : decode cX0_queueEnds 35 = .ok (.ldc 102, 2) := by decide +kernel
theorem dX0_queueEnds_37 : decode cX0_queueEnds 37 = .ok (.if_icmp .ne 8, 3) := by decide +kernel
theorem dX0_queueEnds_40 : decode cX0_queueEnds 40 = .ok (.aload_n 0, 1) := by decide +kernel
theorem dX0_queueEnds_41 : decode cX0_queueEnds 41 = .ok (.iload_n 2, 1) := by decide +kernel
theorem dX0_queueEnds_42 : decode cX0_queueEnds 42 = .ok (.invokevirtual 214, 3) := by decide +kernel
theorem dX0_queueEnds_45 : decode cX0_queueEnds 45 = .ok (.aload_n 0, 1) := by decide +kernel
theorem dX0_queueEnds_46 : decode cX0_queueEnds 46 = .ok (.getfield 31, 3) := by decide +kernel
theorem dX0_queueEnds_49 : decode cX0_queueEnds 49 = .ok (.iload_n 2, 1) := by decide +kernel
theorem dX0_queueEnds_50 : decode cX0_queueEnds 50 = .ok (.iaload, 1) := by decide +kernel
theorem dX0_queueEnds_51 : decode cX0_queueEnds 51 = .ok (.ldc 102, 2) := by decide +kernel
theorem dX0_queueEnds_53 : decode cX0_queueEnds 53 = .ok (.if_icmp .ne 20, 3) := by decide +kernel
theorem dX0_queueEnds_56 : decode cX0_queueEnds 56 = .ok (.aload_n 0, 1) := by decide +kernel
theorem dX0_queueEnds_57 : decode cX0_queueEnds 57 = .ok (.getfield 34, 3) := by decide +kernel
theorem dX0_queueEnds_60 : decode cX0_queueEnds 60 = .ok (.iload_n 2, 1) := by decide +kernel
theorem dX0_queueEnds_61 : decode cX0_queueEnds 61 = .ok (.iaload, 1) := by decide +kernel
theorem dX0_queueEnds_62 : decode cX0_queueEnds 62 = .ok (.sipush 4095, 3) := by decide +kernel
theorem dX0_queueEnds_65 : decode cX0_queueEnds 65 = .ok (.iand, 1) := by decide +kernel
theorem dX0_queueEnds_66 : decode cX0_queueEnds 66 = .ok (.ifCond .ne 7, 3) := by decide +kernel
theorem dX0_queueEnds_69 : decode cX0_queueEnds 69 = .ok (.iconst 1, 1) := by decide +kernel
theorem dX0_queueEnds_70 : decode cX0_queueEnds 70 = .ok (.goto 4, 3) := by decide +kernel
theorem dX0_queueEnds_73 : decode cX0_queueEnds 73 = .ok (.iconst 0, 1) := by decide +kernel
theorem dX0_queueEnds_74 : decode cX0_queueEnds 74 = .ok (.istore_n 3, 1) := by decide +kernel
theorem dX0_queueEnds_75 : decode cX0_queueEnds 75 = .ok (.iload_n 3, 1) := by decide +kernel
theorem dX0_queueEnds_76 : decode cX0_queueEnds 76 = .ok (.ifCond .eq 80, 3) := by decide +kernel
theorem dX0_queueEnds_79 : decode cX0_queueEnds 79 = .ok (.aload_n 0, 1) := by decide +kernel
theorem dX0_queueEnds_80 : decode cX0_queueEnds 80 = .ok (.aload_n 0, 1) := by decide +kernel
theorem dX0_queueEnds_81 : decode cX0_queueEnds 81 = .ok (.getfield 18, 3) := by decide +kernel
theorem dX0_queueEnds_84 : decode cX0_queueEnds 84 = .ok (.iload_n 1, 1) := by decide +kernel
theorem dX0_queueEnds_85 : decode cX0_queueEnds 85 = .ok (.iaload, 1) := by decide +kernel
theorem dX0_queueEnds_86 : decode cX0_queueEnds 86 = .ok (.iload_n 2, 1) := by decide +kernel
theorem dX0_queueEnds_87 : decode cX0_queueEnds 87 = .ok (.aload_n 0, 1) := by decide +kernel
theorem dX0_queueEnds_88 : decode cX0_queueEnds 88 = .ok (.getfield 22, 3) := by decide +kernel
theorem dX0_queueEnds_91 : decode cX0_queueEnds 91 = .ok (.iload_n 1, 1) := by decide +kernel
theorem dX0_queueEnds_92 : decode cX0_queueEnds 92 = .ok (.iaload, 1) := by decide +kernel
theorem dX0_queueEnds_93 : decode cX0_queueEnds 93 = .ok (.isub, 1) := by decide +kernel
theorem dX0_queueEnds_94 : decode cX0_queueEnds 94 = .ok (.iconst 1, 1) := by decide +kernel
theorem dX0_queueEnds_95 : decode cX0_queueEnds 95 = .ok (.ishr, 1) := by decide +kernel
theorem dX0_queueEnds_96 : decode cX0_queueEnds 96 = .ok (.invokevirtual 115, 3) := by decide +kernel
theorem dX0_queueEnds_99 : decode cX0_queueEnds 99 = .ok (.ifCond .eq 57, 3) := by decide +kernel
theorem dX0_queueEnds_102 : decode cX0_queueEnds 102 = .ok (.aload_n 0, 1) := by decide +kernel
theorem dX0_queueEnds_103 : decode cX0_queueEnds 103 = .ok (.getfield 14, 3) := by decide +kernel
theorem dX0_queueEnds_106 : decode cX0_queueEnds 106 = .ok (.iload_n 2, 1) := by decide +kernel
theorem dX0_queueEnds_107 : decode cX0_queueEnds 107 = .ok (.aload_n 0, 1) := by decide +kernel
theorem dX0_queueEnds_108 : decode cX0_queueEnds 108 = .ok (.getfield 22, 3) := by decide +kernel
theorem dX0_queueEnds_111 : decode cX0_queueEnds 111 = .ok (.iload_n 1, 1) := by decide +kernel
theorem dX0_queueEnds_112 : decode cX0_queueEnds 112 = .ok (.iaload, 1) := by decide +kernel
theorem dX0_queueEnds_113 : decode cX0_queueEnds 113 = .ok (.isub, 1) := by decide +kernel
theorem dX0_queueEnds_114 : decode cX0_queueEnds 114 = .ok (.iconst 1, 1) := by decide +kernel
theorem dX0_queueEnds_115 : decode cX0_queueEnds 115 = .ok (.iand, 1) := by decide +kernel
theorem dX0_queueEnds_116 : decode cX0_queueEnds 116 = .ok (.putfield 192, 3) := by decide +kernel
theorem dX0_queueEnds_119 : decode cX0_queueEnds 119 = .ok (.aload_n 0, 1) := by decide +kernel
theorem dX0_queueEnds_120 : decode cX0_queueEnds 120 = .ok (.getfield 31, 3) := by decide +kernel
theorem dX0_queueEnds_123 : decode cX0_queueEnds 123 = .ok (.iload_n 2, 1) := by decide +kernel
theorem dX0_queueEnds_124 : decode cX0_queueEnds 124 = .ok (.aload_n 0, 1) := by decide +kernel
theorem dX0_queueEnds_125 : decode cX0_queueEnds 125 = .ok (.aload_n 0, 1) := by decide +kernel
theorem dX0_queueEnds_126 : decode cX0_queueEnds 126 = .ok (.getfield 48, 3) := by decide +kernel
theorem dX0_queueEnds_129 : decode cX0_queueEnds 129 = .ok (.aload_n 0, 1) := by decide +kernel
theorem dX0_queueEnds_130 : decode cX0_queueEnds 130 = .ok (.getfield 14, 3) := by decide +kernel
theorem dX0_queueEnds_133 : decode cX0_queueEnds 133 = .ok (.aload_n 0, 1) := by decide +kernel
theorem dX0_queueEnds_134 : decode cX0_queueEnds 134 = .ok (.getfield 14, 3) := by decide +kernel
theorem dX0_queueEnds_137 : decode cX0_queueEnds 137 = .ok (.getfield 192, 3) := by decide +kernel
theorem dX0_queueEnds_140 : decode cX0_queueEnds 140 = .ok (.invokevirtual 195, 3) := by decide +kernel
theorem dX0_queueEnds_143 : decode cX0_queueEnds 143 = .ok (.ifCond .eq 7, 3) := by decide +kernel
theorem dX0_queueEnds_146 : decode cX0_queueEnds 146 = .ok (.iconst 5, 1) := by decide +kernel
theorem dX0_queueEnds_147 : decode cX0_queueEnds 147 = .ok (.goto 5, 3) := by decide +kernel
theorem dX0_queueEnds_150 : decode cX0_queueEnds 150 = .ok (.bipush 6, 2) := by decide +kernel
theorem dX0_queueEnds_152 : decode cX0_queueEnds 152 = .ok (.invokevirtual 205, 3) := by decide +kernel
theorem dX0_queueEnds_155 : decode cX0_queueEnds 155 = .ok (.iastore, 1) := by decide +kernel
theorem dX0_queueEnds_156 : decode cX0_queueEnds 156 = .ok (.aload_n 0, 1) := by decide +kernel
theorem dX0_queueEnds_157 : decode cX0_queueEnds 157 = .ok (.getfield 31, 3) := by decide +kernel
theorem dX0_queueEnds_160 : decode cX0_queueEnds 160 = .ok (.iload_n 2, 1) := by decide +kernel
theorem dX0_queueEnds_161 : decode cX0_queueEnds 161 = .ok (.iaload, 1) := by decide +kernel
theorem dX0_queueEnds_162 : decode cX0_queueEnds 162 = .ok (.ldc 212, 2) := by decide +kernel
theorem dX0_queueEnds_164 : decode cX0_queueEnds 164 = .ok (.if_icmp .eq 14, 3) := by decide +kernel
theorem dX0_queueEnds_167 : decode cX0_queueEnds 167 = .ok (.aload_n 0, 1) := by decide +kernel
theorem dX0_queueEnds_168 : decode cX0_queueEnds 168 = .ok (.getfield 31, 3) := by decide +kernel
theorem dX0_queueEnds_171 : decode cX0_queueEnds 171 = .ok (.iload_n 2, 1) := by decide +kernel
theorem dX0_queueEnds_172 : decode cX0_queueEnds 172 = .ok (.iaload, 1) := by decide +kernel
theorem dX0_queueEnds_173 : decode cX0_queueEnds 173 = .ok (.ldc 213, 2) := by decide +kernel
theorem dX0_queueEnds_175 : decode cX0_queueEnds 175 = .ok (.if_icmp .ne 8, 3) := by decide +kernel
theorem dX0_queueEnds_178 : decode cX0_queueEnds 178 = .ok (.aload_n 0, 1) := by decide +kernel
theorem dX0_queueEnds_179 : decode cX0_queueEnds 179 = .ok (.iload_n 2, 1) := by decide +kernel
theorem dX0_queueEnds_180 : decode cX0_queueEnds 180 = .ok (.invokevirtual 217, 3) := by decide +kernel
theorem dX0_queueEnds_183 : decode cX0_queueEnds 183 = .ok (.iinc 2 1, 3) := by decide +kernel
theorem dX0_queueEnds_186 : decode cX0_queueEnds 186 = .ok (.goto (-169), 3) := by decide +kernel
theorem dX0_queueEnds_189 : decode cX0_queueEnds 189 = .ok (.iinc 1 1, 3) := by decide +kernel
theorem dX0_queueEnds_192 : decode cX0_queueEnds 192 = .ok (.goto (-190), 3) := by decide +kernel
theorem dX0_queueEnds_195 : decode cX0_queueEnds 195 = .ok (.return_, 1) := by decide +kernel
def sX0_queueEnds_183 (F : Nat) (k_2 : Hp → Nat → Int32 → Option (Hp)) (k_17 : Hp → Nat → Int32 → Int32 → Option (Hp)) (h : Hp) (x0 : Nat) (x1 : Int32) (x2 : Int32) : Option (Hp) := nm (x2 + (1 : Int32)) fun v_1 => k_17 h x0 x1 v_1
def sX0_queueEnds_178 (F : Nat) (k_2 : Hp → Nat → Int32 → Option (Hp)) (k_17 : Hp → Nat → Int32 → Int32 → Option (Hp)) (h : Hp) (x0 : Nat) (x1 : Int32) (x2 : Int32) : Option (Hp) := cl (sX0_push h x0 x2) fun o_1 => sX0_queueEnds_183 F k_2 k_17 o_1 x0 x1 x2
def sX0_queueEnds_156 (F : Nat) (k_2 : Hp → Nat → Int32 → Option (Hp)) (k_17 : Hp → Nat → Int32 → Int32 → Option (Hp)) (h : Hp) (x0 : Nat) (x1 : Int32) (x2 : Int32) : Option (Hp) := cl (hR h x0 11) fun r_1 => gd (inB x2 (hN h r_1)) <| br ((hI h r_1 x2.toNatClampNeg) = (1000000 : Int32)) (sX0_queueEnds_178 F k_2 k_17 h x0 x1 x2) (cl (hR h x0 11) fun r_4 => gd (inB x2 (hN h r_4)) <| br ((hI h r_4 x2.toNatClampNeg) = (-1000000 : Int32)) (sX0_queueEnds_178 F k_2 k_17 h x0 x1 x2) (sX0_queueEnds_183 F k_2 k_17 h x0 x1 x2))
def sX0_queueEnds_152 (F : Nat) (k_2 : Hp → Nat → Int32 → Option (Hp)) (k_17 : Hp → Nat → Int32 → Int32 → Option (Hp)) (h : Hp) (x0 : Nat) (x1 : Int32) (x2 : Int32) (t0 : Int32) (t1 : Nat) (t2 : Int32) (t3 : Nat) : Option (Hp) := cl (sX0_endWorth h t1 t0) fun o_1 => gd (inB t2 (hN o_1.2 t3)) <| nm (wI o_1.2 t3 t2.toNatClampNeg o_1.1) fun h_3 => sX0_queueEnds_156 F k_2 k_17 h_3 x0 x1 x2
def sX0_queueEnds_74 (F : Nat) (k_2 : Hp → Nat → Int32 → Option (Hp)) (k_17 : Hp → Nat → Int32 → Int32 → Option (Hp)) (h : Hp) (x0 : Nat) (x1 : Int32) (x2 : Int32) (t0 : Int32) : Option (Hp) := br (t0 = 0) (sX0_queueEnds_156 F k_2 k_17 h x0 x1 x2) (cl (hR h x0 4) fun r_2 => gd (inB x1 (hN h r_2)) <| cl (hR h x0 5) fun r_4 => gd (inB x1 (hN h r_4)) <| cl (sX0_layOut F h x0 (hI h r_2 x1.toNatClampNeg) ((x2 - (hI h r_4 x1.toNatClampNeg)) >>> ((1 : Int32) &&& 31))) fun o_6 => br (o_6.1 = 0) (sX0_queueEnds_156 F k_2 k_17 o_6.2 x0 x1 x2) (cl (hR o_6.2 x0 3) fun r_8 => cl (hR o_6.2 x0 5) fun r_9 => gd (inB x1 (hN o_6.2 r_9)) <| nm (wI o_6.2 r_8 5 ((x2 - (hI o_6.2 r_9 x1.toNatClampNeg)) &&& (1 : Int32))) fun h_11 => cl (hR h_11 x0 11) fun r_12 => cl (hR h_11 x0 2) fun r_13 => cl (hR h_11 x0 3) fun r_14 => cl (hR h_11 x0 3) fun r_15 => cl (sX5_isRoyalHit F h_11 r_13 r_14 (hI h_11 r_15 5)) fun o_16 => br (o_16.1 = 0) (sX0_queueEnds_152 F k_2 k_17 o_16.2 x0 x1 x2 (6 : Int32) x0 x2 r_12) (sX0_queueEnds_152 F k_2 k_17 o_16.2 x0 x1 x2 (5 : Int32) x0 x2 r_12)))
def sX0_queueEnds_73 (F : Nat) (k_2 : Hp → Nat → Int32 → Option (Hp)) (k_17 : Hp → Nat → Int32 → Int32 → Option (Hp)) (h : Hp) (x0 : Nat) (x1 : Int32) (x2 : Int32) : Option (Hp) := sX0_queueEnds_74 F k_2 k_17 h x0 x1 x2 (0 : Int32)
def sX0_queueEnds_45 (F : Nat) (k_2 : Hp → Nat → Int32 → Option (Hp)) (k_17 : Hp → Nat → Int32 → Int32 → Option (Hp)) (h : Hp) (x0 : Nat) (x1 : Int32) (x2 : Int32) : Option (Hp) := cl (hR h x0 11) fun r_1 => gd (inB x2 (hN h r_1)) <| br ((hI h r_1 x2.toNatClampNeg) = (3000000 : Int32)) (cl (hR h x0 12) fun r_4 => gd (inB x2 (hN h r_4)) <| br (((hI h r_4 x2.toNatClampNeg) &&& (4095 : Int32)) = 0) (sX0_queueEnds_74 F k_2 k_17 h x0 x1 x2 (1 : Int32)) (sX0_queueEnds_73 F k_2 k_17 h x0 x1 x2)) (sX0_queueEnds_73 F k_2 k_17 h x0 x1 x2)
def sX0_queueEnds_17 (F : Nat) (k_2 : Hp → Nat → Int32 → Option (Hp)) : Nat → Hp → Nat → Int32 → Int32 → Option (Hp)
  | 0, _, _, _, _ => none
  | f + 1, h, x0, x1, x2 => cl (hR h x0 5) fun r_1 => gd (inB (x1 + (1 : Int32)) (hN h r_1)) <| br ((hI h r_1 (x1 + (1 : Int32)).toNatClampNeg) ≤ x2) (nm (x1 + (1 : Int32)) fun v_4 => k_2 h x0 v_4) (cl (hR h x0 11) fun r_5 => gd (inB x2 (hN h r_5)) <| br ((hI h r_5 x2.toNatClampNeg) = (3000000 : Int32)) (cl (sX0_settleCount h x0 x2) fun o_8 => sX0_queueEnds_45 F k_2 (sX0_queueEnds_17 F k_2 f) o_8 x0 x1 x2) (sX0_queueEnds_45 F k_2 (sX0_queueEnds_17 F k_2 f) h x0 x1 x2))
def sX0_queueEnds_2 (F : Nat) : Nat → Hp → Nat → Int32 → Option (Hp)
  | 0, _, _, _ => none
  | f + 1, h, x0, x1 => br ((hI h x0 9) ≤ x1) (some h) (cl (hR h x0 5) fun r_2 => gd (inB x1 (hN h r_2)) <| nm (hI h r_2 x1.toNatClampNeg) fun v_4 => sX0_queueEnds_17 F (sX0_queueEnds_2 F f) F h x0 x1 v_4)
def sX0_queueEnds (F : Nat) (h : Hp) (x0 : Nat) : Option (Hp) := sX0_queueEnds_2 F F h x0 (0 : Int32)
set_option maxRecDepth 20000 in
theorem moX0_queueEnds_183 {o : Hp} {k_2 : Hp → Nat → Int32 → Option (Hp)} {k_17 : Hp → Nat → Int32 → Int32 → Option (Hp)} {F : Nat} (mk_2 : ∀ (h : Hp) (x0 : Nat) (x1 : Int32), k_2 h x0 x1 = some o → Le h o) (mk_17 : ∀ (h : Hp) (x0 : Nat) (x1 : Int32) (x2 : Int32), k_17 h x0 x1 x2 = some o → Le h o) {h : Hp} {x0 : Nat} {x1 : Int32} {x2 : Int32} (hE : sX0_queueEnds_183 F k_2 k_17 h x0 x1 x2 = some o) : Le h o := by
  obtain ⟨v_1, ev_1, hE⟩ := nm_e2 hE
  exact mk_17 _ _ _ _ hE
set_option maxRecDepth 20000 in
theorem moX0_queueEnds_178 {o : Hp} {k_2 : Hp → Nat → Int32 → Option (Hp)} {k_17 : Hp → Nat → Int32 → Int32 → Option (Hp)} {F : Nat} (mk_2 : ∀ (h : Hp) (x0 : Nat) (x1 : Int32), k_2 h x0 x1 = some o → Le h o) (mk_17 : ∀ (h : Hp) (x0 : Nat) (x1 : Int32) (x2 : Int32), k_17 h x0 x1 x2 = some o → Le h o) {h : Hp} {x0 : Nat} {x1 : Int32} {x2 : Int32} (hE : sX0_queueEnds_178 F k_2 k_17 h x0 x1 x2 = some o) : Le h o := by
  obtain ⟨o_1, eo_1, hE⟩ := cl_e hE
  refine (moX0_push eo_1).tr ?_
  exact moX0_queueEnds_183 mk_2 mk_17 hE
set_option maxRecDepth 20000 in
theorem moX0_queueEnds_156 {o : Hp} {k_2 : Hp → Nat → Int32 → Option (Hp)} {k_17 : Hp → Nat → Int32 → Int32 → Option (Hp)} {F : Nat} (mk_2 : ∀ (h : Hp) (x0 : Nat) (x1 : Int32), k_2 h x0 x1 = some o → Le h o) (mk_17 : ∀ (h : Hp) (x0 : Nat) (x1 : Int32) (x2 : Int32), k_17 h x0 x1 x2 = some o → Le h o) {h : Hp} {x0 : Nat} {x1 : Int32} {x2 : Int32} (hE : sX0_queueEnds_156 F k_2 k_17 h x0 x1 x2 = some o) : Le h o := by
  obtain ⟨r_1, er_1, hE⟩ := cl_e hE
  obtain ⟨g_2, hE⟩ := gd_e hE
  rcases br_e hE with ⟨_, hE⟩ | ⟨_, hE⟩
  · exact moX0_queueEnds_178 mk_2 mk_17 hE
  · obtain ⟨r_4, er_4, hE⟩ := cl_e hE
    obtain ⟨g_5, hE⟩ := gd_e hE
    rcases br_e hE with ⟨_, hE⟩ | ⟨_, hE⟩
    · exact moX0_queueEnds_178 mk_2 mk_17 hE
    · exact moX0_queueEnds_183 mk_2 mk_17 hE
set_option maxRecDepth 20000 in
theorem moX0_queueEnds_152 {o : Hp} {k_2 : Hp → Nat → Int32 → Option (Hp)} {k_17 : Hp → Nat → Int32 → Int32 → Option (Hp)} {F : Nat} (mk_2 : ∀ (h : Hp) (x0 : Nat) (x1 : Int32), k_2 h x0 x1 = some o → Le h o) (mk_17 : ∀ (h : Hp) (x0 : Nat) (x1 : Int32) (x2 : Int32), k_17 h x0 x1 x2 = some o → Le h o) {h : Hp} {x0 : Nat} {x1 : Int32} {x2 : Int32} {t0 : Int32} {t1 : Nat} {t2 : Int32} {t3 : Nat} (hE : sX0_queueEnds_152 F k_2 k_17 h x0 x1 x2 t0 t1 t2 t3 = some o) : Le h o := by
  obtain ⟨o_1, eo_1, hE⟩ := cl_e hE
  refine (moX0_endWorth eo_1).tr ?_
  obtain ⟨g_2, hE⟩ := gd_e hE
  obtain ⟨h_3, eh_3, hE⟩ := nm_e2 hE
  refine (le_I eh_3).tr ?_
  exact moX0_queueEnds_156 mk_2 mk_17 hE
set_option maxRecDepth 20000 in
theorem moX0_queueEnds_74 {o : Hp} {k_2 : Hp → Nat → Int32 → Option (Hp)} {k_17 : Hp → Nat → Int32 → Int32 → Option (Hp)} {F : Nat} (mk_2 : ∀ (h : Hp) (x0 : Nat) (x1 : Int32), k_2 h x0 x1 = some o → Le h o) (mk_17 : ∀ (h : Hp) (x0 : Nat) (x1 : Int32) (x2 : Int32), k_17 h x0 x1 x2 = some o → Le h o) {h : Hp} {x0 : Nat} {x1 : Int32} {x2 : Int32} {t0 : Int32} (hE : sX0_queueEnds_74 F k_2 k_17 h x0 x1 x2 t0 = some o) : Le h o := by
  rcases br_e hE with ⟨_, hE⟩ | ⟨_, hE⟩
  · exact moX0_queueEnds_156 mk_2 mk_17 hE
  · obtain ⟨r_2, er_2, hE⟩ := cl_e hE
    obtain ⟨g_3, hE⟩ := gd_e hE
    obtain ⟨r_4, er_4, hE⟩ := cl_e hE
    obtain ⟨g_5, hE⟩ := gd_e hE
    obtain ⟨o_6, eo_6, hE⟩ := cl_e hE
    refine (moX0_layOut eo_6).tr ?_
    rcases br_e hE with ⟨_, hE⟩ | ⟨_, hE⟩
    · exact moX0_queueEnds_156 mk_2 mk_17 hE
    · obtain ⟨r_8, er_8, hE⟩ := cl_e hE
      obtain ⟨r_9, er_9, hE⟩ := cl_e hE
      obtain ⟨g_10, hE⟩ := gd_e hE
      obtain ⟨h_11, eh_11, hE⟩ := nm_e2 hE
      refine (le_I eh_11).tr ?_
      obtain ⟨r_12, er_12, hE⟩ := cl_e hE
      obtain ⟨r_13, er_13, hE⟩ := cl_e hE
      obtain ⟨r_14, er_14, hE⟩ := cl_e hE
      obtain ⟨r_15, er_15, hE⟩ := cl_e hE
      obtain ⟨o_16, eo_16, hE⟩ := cl_e hE
      refine (moX5_isRoyalHit eo_16).tr ?_
      rcases br_e hE with ⟨_, hE⟩ | ⟨_, hE⟩
      · exact moX0_queueEnds_152 mk_2 mk_17 hE
      · exact moX0_queueEnds_152 mk_2 mk_17 hE
set_option maxRecDepth 20000 in
theorem moX0_queueEnds_73 {o : Hp} {k_2 : Hp → Nat → Int32 → Option (Hp)} {k_17 : Hp → Nat → Int32 → Int32 → Option (Hp)} {F : Nat} (mk_2 : ∀ (h : Hp) (x0 : Nat) (x1 : Int32), k_2 h x0 x1 = some o → Le h o) (mk_17 : ∀ (h : Hp) (x0 : Nat) (x1 : Int32) (x2 : Int32), k_17 h x0 x1 x2 = some o → Le h o) {h : Hp} {x0 : Nat} {x1 : Int32} {x2 : Int32} (hE : sX0_queueEnds_73 F k_2 k_17 h x0 x1 x2 = some o) : Le h o := by
  exact moX0_queueEnds_74 mk_2 mk_17 hE
set_option maxRecDepth 20000 in
theorem moX0_queueEnds_45 {o : Hp} {k_2 : Hp → Nat → Int32 → Option (Hp)} {k_17 : Hp → Nat → Int32 → Int32 → Option (Hp)} {F : Nat} (mk_2 : ∀ (h : Hp) (x0 : Nat) (x1 : Int32), k_2 h x0 x1 = some o → Le h o) (mk_17 : ∀ (h : Hp) (x0 : Nat) (x1 : Int32) (x2 : Int32), k_17 h x0 x1 x2 = some o → Le h o) {h : Hp} {x0 : Nat} {x1 : Int32} {x2 : Int32} (hE : sX0_queueEnds_45 F k_2 k_17 h x0 x1 x2 = some o) : Le h o := by
  obtain ⟨r_1, er_1, hE⟩ := cl_e hE
  obtain ⟨g_2, hE⟩ := gd_e hE
  rcases br_e hE with ⟨_, hE⟩ | ⟨_, hE⟩
  · obtain ⟨r_4, er_4, hE⟩ := cl_e hE
    obtain ⟨g_5, hE⟩ := gd_e hE
    rcases br_e hE with ⟨_, hE⟩ | ⟨_, hE⟩
    · exact moX0_queueEnds_74 mk_2 mk_17 hE
    · exact moX0_queueEnds_73 mk_2 mk_17 hE
  · exact moX0_queueEnds_73 mk_2 mk_17 hE
set_option maxRecDepth 20000 in
theorem moX0_queueEnds_17 {o : Hp} {k_2 : Hp → Nat → Int32 → Option (Hp)} {F : Nat} (mk_2 : ∀ (h : Hp) (x0 : Nat) (x1 : Int32), k_2 h x0 x1 = some o → Le h o) : ∀ (f : Nat) {h : Hp} {x0 : Nat} {x1 : Int32} {x2 : Int32}, sX0_queueEnds_17 F k_2 f h x0 x1 x2 = some o → Le h o := by
  intro f
  induction f with
  | zero =>
    intro h x0 x1 x2 hE
    rw [sX0_queueEnds_17] at hE
    cases hE
  | succ f ih =>
    intro h x0 x1 x2 hE
    rw [sX0_queueEnds_17] at hE
    have mk_17 : ∀ (h : Hp) (x0 : Nat) (x1 : Int32) (x2 : Int32), sX0_queueEnds_17 F k_2 f h x0 x1 x2 = some o → Le h o := fun h x0 x1 x2 hE => ih hE
    obtain ⟨r_1, er_1, hE⟩ := cl_e hE
    obtain ⟨g_2, hE⟩ := gd_e hE
    rcases br_e hE with ⟨_, hE⟩ | ⟨_, hE⟩
    · obtain ⟨v_4, ev_4, hE⟩ := nm_e2 hE
      exact mk_2 _ _ _ hE
    · obtain ⟨r_5, er_5, hE⟩ := cl_e hE
      obtain ⟨g_6, hE⟩ := gd_e hE
      rcases br_e hE with ⟨_, hE⟩ | ⟨_, hE⟩
      · obtain ⟨o_8, eo_8, hE⟩ := cl_e hE
        refine (moX0_settleCount eo_8).tr ?_
        exact moX0_queueEnds_45 mk_2 mk_17 hE
      · exact moX0_queueEnds_45 mk_2 mk_17 hE
set_option maxRecDepth 20000 in
theorem moX0_queueEnds_2 {o : Hp} {F : Nat} : ∀ (f : Nat) {h : Hp} {x0 : Nat} {x1 : Int32}, sX0_queueEnds_2 F f h x0 x1 = some o → Le h o := by
  intro f
  induction f with
  | zero =>
    intro h x0 x1 hE
    rw [sX0_queueEnds_2] at hE
    cases hE
  | succ f ih =>
    intro h x0 x1 hE
    rw [sX0_queueEnds_2] at hE
    have mk_2 : ∀ (h : Hp) (x0 : Nat) (x1 : Int32), sX0_queueEnds_2 F f h x0 x1 = some o → Le h o := fun h x0 x1 hE => ih hE
    rcases br_e hE with ⟨_, hE⟩ | ⟨_, hE⟩
    · cases hE
      exact Le.rf _
    · obtain ⟨r_2, er_2, hE⟩ := cl_e hE
      obtain ⟨g_3, hE⟩ := gd_e hE
      obtain ⟨v_4, ev_4, hE⟩ := nm_e2 hE
      exact moX0_queueEnds_17 mk_2 _ hE
set_option maxRecDepth 20000 in
theorem moX0_queueEnds {o : Hp} {F : Nat} {h : Hp} {x0 : Nat} (hE : sX0_queueEnds F h x0 = some o) : Le h o := by
  exact moX0_queueEnds_2 _ hE
set_option maxRecDepth 20000 in
theorem bX0_queueEnds_183 {p : Program} {l : Launch} {e : Env} {s : State} {m : MethodId} {args : Array Value} {below : List Frame} {meth : Method} {c : Code} {X : Ec} {h0 : Hp} {o : Hp} {k_2 : Hp → Nat → Int32 → Option (Hp)} {k_17 : Hp → Nat → Int32 → Int32 → Option (Hp)} {F : Nat} (C : Cx X p s m args meth c RX0 cX0_queueEnds 4 none "queueEnds") (hk_2 : ∀ (h : Hp) (x0 : Nat) (x1 : Int32) (H : Heap) (locs : List Loc), hK h x0 = 0 → Km h0 h → Wx X h H → va_S (aA (eB X)) s.heap H locs → ∀ (ls : Array Slot), lv_has ls 4 [(0, .ref x0), (1, .int x1)] → k_2 h x0 x1 = some o → W p l e (rm 3 75) s m args below meth c H locs 0 0 (MQ below (QV X h0 o) args s 0 0 (aA (eB X))) (F0 m 2 ls [])) (hk_17 : ∀ (h : Hp) (x0 : Nat) (x1 : Int32) (x2 : Int32) (H : Heap) (locs : List Loc), hK h x0 = 0 → Km h0 h → Wx X h H → va_S (aA (eB X)) s.heap H locs → ∀ (ls : Array Slot), lv_has ls 4 [(0, .ref x0), (1, .int x1), (2, .int x2)] → k_17 h x0 x1 x2 = some o → W p l e (rm 3 75) s m args below meth c H locs 0 0 (MQ below (QV X h0 o) args s 0 0 (aA (eB X))) (F0 m 17 ls [])) {h : Hp} {x0 : Nat} {x1 : Int32} {x2 : Int32} {H : Heap} {locs : List Loc} (k_x0 : hK h x0 = 0) (hkm : Km h0 h) (hW : Wx X h H) (hZ : va_S (aA (eB X)) s.heap H locs) (ls : Array Slot) (hl : lv_has ls 4 [(0, .ref x0), (1, .int x1), (2, .int x2)]) (hE : sX0_queueEnds_183 F k_2 k_17 h x0 x1 x2 = some o) : W p l e (rm 3 75) s m args below meth c H locs 0 0 (MQ below (QV X h0 o) args s 0 0 (aA (eB X))) (F0 m 183 ls []) := by
  obtain ⟨v_1, ev_1, hE⟩ := nm_e2 hE
  refine lv_iinc (v := v_1) (lv' := [(2, .int v_1), (0, .ref x0), (1, .int x1)]) C.1 C.2.1 dX0_queueEnds_183 hl (k := 2) rfl (by rw [ev_1]; rfl) (by decide) rfl (fun ls hl => ?_)
  refine lv_goto (tgt := 17) C.1 C.2.1 dX0_queueEnds_186 (by decide) ?_
  exact hk_17 _ _ _ _ _ _ k_x0 hkm hW hZ _ (lv_sub hl [1, 2, 0] rfl) hE
set_option maxRecDepth 20000 in
theorem bX0_queueEnds_178 {p : Program} {l : Launch} {e : Env} {s : State} {m : MethodId} {args : Array Value} {below : List Frame} {meth : Method} {c : Code} {X : Ec} {h0 : Hp} {o : Hp} {k_2 : Hp → Nat → Int32 → Option (Hp)} {k_17 : Hp → Nat → Int32 → Int32 → Option (Hp)} {F : Nat} (C : Cx X p s m args meth c RX0 cX0_queueEnds 4 none "queueEnds") (hk_2 : ∀ (h : Hp) (x0 : Nat) (x1 : Int32) (H : Heap) (locs : List Loc), hK h x0 = 0 → Km h0 h → Wx X h H → va_S (aA (eB X)) s.heap H locs → ∀ (ls : Array Slot), lv_has ls 4 [(0, .ref x0), (1, .int x1)] → k_2 h x0 x1 = some o → W p l e (rm 3 75) s m args below meth c H locs 0 0 (MQ below (QV X h0 o) args s 0 0 (aA (eB X))) (F0 m 2 ls [])) (hk_17 : ∀ (h : Hp) (x0 : Nat) (x1 : Int32) (x2 : Int32) (H : Heap) (locs : List Loc), hK h x0 = 0 → Km h0 h → Wx X h H → va_S (aA (eB X)) s.heap H locs → ∀ (ls : Array Slot), lv_has ls 4 [(0, .ref x0), (1, .int x1), (2, .int x2)] → k_17 h x0 x1 x2 = some o → W p l e (rm 3 75) s m args below meth c H locs 0 0 (MQ below (QV X h0 o) args s 0 0 (aA (eB X))) (F0 m 17 ls [])) {h : Hp} {x0 : Nat} {x1 : Int32} {x2 : Int32} {H : Heap} {locs : List Loc} (k_x0 : hK h x0 = 0) (hkm : Km h0 h) (hW : Wx X h H) (hZ : va_S (aA (eB X)) s.heap H locs) (ls : Array Slot) (hl : lv_has ls 4 [(0, .ref x0), (1, .int x1), (2, .int x2)]) (hE : sX0_queueEnds_178 F k_2 k_17 h x0 x1 x2 = some o) : W p l e (rm 3 75) s m args below meth c H locs 0 0 (MQ below (QV X h0 o) args s 0 0 (aA (eB X))) (F0 m 178 ls []) := by
  refine lv_aload_n C.1 C.2.1 dX0_queueEnds_178 rfl (lv_at hl 0 rfl) ?_
  refine lv_iload_n C.1 C.2.1 dX0_queueEnds_179 rfl (lv_at hl 2 rfl) ?_
  obtain ⟨o_1, eo_1, hE⟩ := cl_e hE
  refine x_kV (o := o_1) (z_runV (As := [.int x2]) (rest := []) C (ct_X0_push l X k_x0 eo_1) cw_X0_217 hW hZ k_x0 (by decide) rfl rfl rfl hl.1 (Nat.le_of_ble_eq_true rfl) rfl dX0_queueEnds_180 ⟨Nat.le_of_ble_eq_true rfl, Nat.le_of_ble_eq_true rfl⟩ ⟨Nat.le_refl _, Nat.le_refl _⟩) hZ (fun _ _ hW km hZ => ?_)
  replace hkm := hkm.tr km
  replace k_x0 := km.at k_x0 (by decide)
  exact bX0_queueEnds_183 C hk_2 hk_17 k_x0 hkm hW hZ _ (lv_sub hl [0, 1, 2] rfl) hE
set_option maxRecDepth 20000 in
theorem bX0_queueEnds_156 {p : Program} {l : Launch} {e : Env} {s : State} {m : MethodId} {args : Array Value} {below : List Frame} {meth : Method} {c : Code} {X : Ec} {h0 : Hp} {o : Hp} {k_2 : Hp → Nat → Int32 → Option (Hp)} {k_17 : Hp → Nat → Int32 → Int32 → Option (Hp)} {F : Nat} (C : Cx X p s m args meth c RX0 cX0_queueEnds 4 none "queueEnds") (hk_2 : ∀ (h : Hp) (x0 : Nat) (x1 : Int32) (H : Heap) (locs : List Loc), hK h x0 = 0 → Km h0 h → Wx X h H → va_S (aA (eB X)) s.heap H locs → ∀ (ls : Array Slot), lv_has ls 4 [(0, .ref x0), (1, .int x1)] → k_2 h x0 x1 = some o → W p l e (rm 3 75) s m args below meth c H locs 0 0 (MQ below (QV X h0 o) args s 0 0 (aA (eB X))) (F0 m 2 ls [])) (hk_17 : ∀ (h : Hp) (x0 : Nat) (x1 : Int32) (x2 : Int32) (H : Heap) (locs : List Loc), hK h x0 = 0 → Km h0 h → Wx X h H → va_S (aA (eB X)) s.heap H locs → ∀ (ls : Array Slot), lv_has ls 4 [(0, .ref x0), (1, .int x1), (2, .int x2)] → k_17 h x0 x1 x2 = some o → W p l e (rm 3 75) s m args below meth c H locs 0 0 (MQ below (QV X h0 o) args s 0 0 (aA (eB X))) (F0 m 17 ls [])) {h : Hp} {x0 : Nat} {x1 : Int32} {x2 : Int32} {H : Heap} {locs : List Loc} (k_x0 : hK h x0 = 0) (hkm : Km h0 h) (hW : Wx X h H) (hZ : va_S (aA (eB X)) s.heap H locs) (ls : Array Slot) (hl : lv_has ls 4 [(0, .ref x0), (1, .int x1), (2, .int x2)]) (hE : sX0_queueEnds_156 F k_2 k_17 h x0 x1 x2 = some o) : W p l e (rm 3 75) s m args below meth c H locs 0 0 (MQ below (QV X h0 o) args s 0 0 (aA (eB X))) (F0 m 156 ls []) := by
  refine lv_aload_n C.1 C.2.1 dX0_queueEnds_156 rfl (lv_at hl 0 rfl) ?_
  obtain ⟨r_1, er_1, hE⟩ := cl_e hE
  refine gf_X0_31 C hW k_x0 er_1 dX0_queueEnds_157 (fun k_r_1 => ?_)
  refine lv_iload_n C.1 C.2.1 dX0_queueEnds_160 rfl (lv_at hl 2 rfl) ?_
  obtain ⟨g_2, hE⟩ := gd_e hE
  refine y_iald C hW k_r_1 g_2 dX0_queueEnds_161 ?_
  refine lv_ldc (v := (1000000 : Int32)) C.1 C.2.1 C.2.2.2.1 (C.2.2.2.2.1 _ m_1691) dX0_queueEnds_162 ?_
  refine lv_icmp_eq (tgt := 178) C.1 C.2.1 dX0_queueEnds_164 (by decide) (fun c_3 => ?_) (fun c_3 => ?_)
  · have hE := br_p hE c_3
    exact bX0_queueEnds_178 C hk_2 hk_17 k_x0 hkm hW hZ _ (lv_sub hl [0, 1, 2] rfl) hE
  · have hE := br_n hE c_3
    refine lv_aload_n C.1 C.2.1 dX0_queueEnds_167 rfl (lv_at hl 0 rfl) ?_
    obtain ⟨r_4, er_4, hE⟩ := cl_e hE
    refine gf_X0_31 C hW k_x0 er_4 dX0_queueEnds_168 (fun k_r_4 => ?_)
    refine lv_iload_n C.1 C.2.1 dX0_queueEnds_171 rfl (lv_at hl 2 rfl) ?_
    obtain ⟨g_5, hE⟩ := gd_e hE
    refine y_iald C hW k_r_4 g_5 dX0_queueEnds_172 ?_
    refine lv_ldc (v := (-1000000 : Int32)) C.1 C.2.1 C.2.2.2.1 (C.2.2.2.2.1 _ m_1692) dX0_queueEnds_173 ?_
    refine lv_icmp_ne (tgt := 183) C.1 C.2.1 dX0_queueEnds_175 (by decide) (fun c_6 => ?_) (fun c_6 => ?_)
    · have hE := br_n hE c_6
      exact bX0_queueEnds_183 C hk_2 hk_17 k_x0 hkm hW hZ _ (lv_sub hl [0, 1, 2] rfl) hE
    · have hE := br_p hE c_6
      exact bX0_queueEnds_178 C hk_2 hk_17 k_x0 hkm hW hZ _ (lv_sub hl [0, 1, 2] rfl) hE
set_option maxRecDepth 20000 in
theorem bX0_queueEnds_152 {p : Program} {l : Launch} {e : Env} {s : State} {m : MethodId} {args : Array Value} {below : List Frame} {meth : Method} {c : Code} {X : Ec} {h0 : Hp} {o : Hp} {k_2 : Hp → Nat → Int32 → Option (Hp)} {k_17 : Hp → Nat → Int32 → Int32 → Option (Hp)} {F : Nat} (C : Cx X p s m args meth c RX0 cX0_queueEnds 4 none "queueEnds") (hk_2 : ∀ (h : Hp) (x0 : Nat) (x1 : Int32) (H : Heap) (locs : List Loc), hK h x0 = 0 → Km h0 h → Wx X h H → va_S (aA (eB X)) s.heap H locs → ∀ (ls : Array Slot), lv_has ls 4 [(0, .ref x0), (1, .int x1)] → k_2 h x0 x1 = some o → W p l e (rm 3 75) s m args below meth c H locs 0 0 (MQ below (QV X h0 o) args s 0 0 (aA (eB X))) (F0 m 2 ls [])) (hk_17 : ∀ (h : Hp) (x0 : Nat) (x1 : Int32) (x2 : Int32) (H : Heap) (locs : List Loc), hK h x0 = 0 → Km h0 h → Wx X h H → va_S (aA (eB X)) s.heap H locs → ∀ (ls : Array Slot), lv_has ls 4 [(0, .ref x0), (1, .int x1), (2, .int x2)] → k_17 h x0 x1 x2 = some o → W p l e (rm 3 75) s m args below meth c H locs 0 0 (MQ below (QV X h0 o) args s 0 0 (aA (eB X))) (F0 m 17 ls [])) {h : Hp} {x0 : Nat} {x1 : Int32} {x2 : Int32} {t0 : Int32} {t1 : Nat} {t2 : Int32} {t3 : Nat} {H : Heap} {locs : List Loc} (k_x0 : hK h x0 = 0) (k_t1 : hK h t1 = 0) (k_t3 : hK h t3 = 17) (hkm : Km h0 h) (hW : Wx X h H) (hZ : va_S (aA (eB X)) s.heap H locs) (ls : Array Slot) (hl : lv_has ls 4 [(0, .ref x0), (1, .int x1), (2, .int x2)]) (hE : sX0_queueEnds_152 F k_2 k_17 h x0 x1 x2 t0 t1 t2 t3 = some o) : W p l e (rm 3 75) s m args below meth c H locs 0 0 (MQ below (QV X h0 o) args s 0 0 (aA (eB X))) (F0 m 152 ls [.int t0, .ref t1, .int t2, .ref t3]) := by
  obtain ⟨o_1, eo_1, hE⟩ := cl_e hE
  refine x_kI (o := o_1) (z_runV (As := [.int t0]) (rest := [.int t2, .ref t3]) C (ct_X0_endWorth l X k_t1 eo_1) cw_X0_205 hW hZ k_t1 (by decide) rfl rfl rfl hl.1 (Nat.le_of_ble_eq_true rfl) rfl dX0_queueEnds_152 ⟨Nat.le_of_ble_eq_true rfl, Nat.le_of_ble_eq_true rfl⟩ ⟨Nat.le_refl _, Nat.le_refl _⟩) hZ (fun _ _ hW km hZ => ?_)
  replace hkm := hkm.tr km
  replace k_x0 := km.at k_x0 (by decide)
  replace k_t3 := km.at k_t3 (by decide)
  obtain ⟨g_2, hE⟩ := gd_e hE
  obtain ⟨h_3, eh_3, hE⟩ := nm_e2 hE
  refine y_iast C hW hZ k_t3 g_2 eh_3 dX0_queueEnds_155 (fun _ _ hW km hZ => ?_)
  replace hkm := hkm.tr km
  replace k_x0 := km.at k_x0 (by decide)
  exact bX0_queueEnds_156 C hk_2 hk_17 k_x0 hkm hW hZ _ (lv_sub hl [0, 1, 2] rfl) hE
set_option maxRecDepth 20000 in
theorem bX0_queueEnds_74 {p : Program} {l : Launch} {e : Env} {s : State} {m : MethodId} {args : Array Value} {below : List Frame} {meth : Method} {c : Code} {X : Ec} {h0 : Hp} {o : Hp} {k_2 : Hp → Nat → Int32 → Option (Hp)} {k_17 : Hp → Nat → Int32 → Int32 → Option (Hp)} {F : Nat} (C : Cx X p s m args meth c RX0 cX0_queueEnds 4 none "queueEnds") (hk_2 : ∀ (h : Hp) (x0 : Nat) (x1 : Int32) (H : Heap) (locs : List Loc), hK h x0 = 0 → Km h0 h → Wx X h H → va_S (aA (eB X)) s.heap H locs → ∀ (ls : Array Slot), lv_has ls 4 [(0, .ref x0), (1, .int x1)] → k_2 h x0 x1 = some o → W p l e (rm 3 75) s m args below meth c H locs 0 0 (MQ below (QV X h0 o) args s 0 0 (aA (eB X))) (F0 m 2 ls [])) (hk_17 : ∀ (h : Hp) (x0 : Nat) (x1 : Int32) (x2 : Int32) (H : Heap) (locs : List Loc), hK h x0 = 0 → Km h0 h → Wx X h H → va_S (aA (eB X)) s.heap H locs → ∀ (ls : Array Slot), lv_has ls 4 [(0, .ref x0), (1, .int x1), (2, .int x2)] → k_17 h x0 x1 x2 = some o → W p l e (rm 3 75) s m args below meth c H locs 0 0 (MQ below (QV X h0 o) args s 0 0 (aA (eB X))) (F0 m 17 ls [])) {h : Hp} {x0 : Nat} {x1 : Int32} {x2 : Int32} {t0 : Int32} {H : Heap} {locs : List Loc} (k_x0 : hK h x0 = 0) (hkm : Km h0 h) (hW : Wx X h H) (hZ : va_S (aA (eB X)) s.heap H locs) (ls : Array Slot) (hl : lv_has ls 4 [(0, .ref x0), (1, .int x1), (2, .int x2)]) (hE : sX0_queueEnds_74 F k_2 k_17 h x0 x1 x2 t0 = some o) : W p l e (rm 3 75) s m args below meth c H locs 0 0 (MQ below (QV X h0 o) args s 0 0 (aA (eB X))) (F0 m 74 ls [.int t0]) := by
  refine lv_istore_n (lv' := [(3, .int t0), (0, .ref x0), (1, .int x1), (2, .int x2)]) C.1 C.2.1 dX0_queueEnds_74 rfl hl (by decide) rfl (fun ls hl => ?_)
  refine lv_iload_n C.1 C.2.1 dX0_queueEnds_75 rfl (lv_at hl 0 rfl) ?_
  refine lv_if_eq (tgt := 156) C.1 C.2.1 dX0_queueEnds_76 (by decide) (fun c_1 => ?_) (fun c_1 => ?_)
  · have hE := br_p hE c_1
    exact bX0_queueEnds_156 C hk_2 hk_17 k_x0 hkm hW hZ _ (lv_sub hl [1, 2, 3] rfl) hE
  · have hE := br_n hE c_1
    refine lv_aload_n C.1 C.2.1 dX0_queueEnds_79 rfl (lv_at hl 1 rfl) ?_
    refine lv_aload_n C.1 C.2.1 dX0_queueEnds_80 rfl (lv_at hl 1 rfl) ?_
    obtain ⟨r_2, er_2, hE⟩ := cl_e hE
    refine gf_X0_18 C hW k_x0 er_2 dX0_queueEnds_81 (fun k_r_2 => ?_)
    refine lv_iload_n C.1 C.2.1 dX0_queueEnds_84 rfl (lv_at hl 2 rfl) ?_
    obtain ⟨g_3, hE⟩ := gd_e hE
    refine y_iald C hW k_r_2 g_3 dX0_queueEnds_85 ?_
    refine lv_iload_n C.1 C.2.1 dX0_queueEnds_86 rfl (lv_at hl 3 rfl) ?_
    refine lv_aload_n C.1 C.2.1 dX0_queueEnds_87 rfl (lv_at hl 1 rfl) ?_
    obtain ⟨r_4, er_4, hE⟩ := cl_e hE
    refine gf_X0_22 C hW k_x0 er_4 dX0_queueEnds_88 (fun k_r_4 => ?_)
    refine lv_iload_n C.1 C.2.1 dX0_queueEnds_91 rfl (lv_at hl 2 rfl) ?_
    obtain ⟨g_5, hE⟩ := gd_e hE
    refine y_iald C hW k_r_4 g_5 dX0_queueEnds_92 ?_
    refine lv_isub C.1 C.2.1 dX0_queueEnds_93 ?_
    refine lv_iconst (v := (1 : Int32)) C.1 C.2.1 dX0_queueEnds_94 (by decide) ?_
    refine lv_ishr C.1 C.2.1 dX0_queueEnds_95 ?_
    obtain ⟨o_6, eo_6, hE⟩ := cl_e hE
    refine x_kI (o := o_6) (z_runV (As := [.int (hI h r_2 x1.toNatClampNeg), .int ((x2 - (hI h r_4 x1.toNatClampNeg)) >>> ((1 : Int32) &&& 31))]) (rest := []) C (ct_X0_layOut l X F k_x0 eo_6) cw_X0_115 hW hZ k_x0 (by decide) rfl rfl rfl hl.1 (Nat.le_of_ble_eq_true rfl) rfl dX0_queueEnds_96 ⟨Nat.le_of_ble_eq_true rfl, Nat.le_of_ble_eq_true rfl⟩ ⟨Nat.le_refl _, Nat.le_refl _⟩) hZ (fun _ _ hW km hZ => ?_)
    replace hkm := hkm.tr km
    replace k_x0 := km.at k_x0 (by decide)
    refine lv_if_eq (tgt := 156) C.1 C.2.1 dX0_queueEnds_99 (by decide) (fun c_7 => ?_) (fun c_7 => ?_)
    · have hE := br_p hE c_7
      exact bX0_queueEnds_156 C hk_2 hk_17 k_x0 hkm hW hZ _ (lv_sub hl [1, 2, 3] rfl) hE
    · have hE := br_n hE c_7
      refine lv_aload_n C.1 C.2.1 dX0_queueEnds_102 rfl (lv_at hl 1 rfl) ?_
      obtain ⟨r_8, er_8, hE⟩ := cl_e hE
      refine gf_X0_14 C hW k_x0 er_8 dX0_queueEnds_103 (fun k_r_8 => ?_)
      refine lv_iload_n C.1 C.2.1 dX0_queueEnds_106 rfl (lv_at hl 3 rfl) ?_
      refine lv_aload_n C.1 C.2.1 dX0_queueEnds_107 rfl (lv_at hl 1 rfl) ?_
      obtain ⟨r_9, er_9, hE⟩ := cl_e hE
      refine gf_X0_22 C hW k_x0 er_9 dX0_queueEnds_108 (fun k_r_9 => ?_)
      refine lv_iload_n C.1 C.2.1 dX0_queueEnds_111 rfl (lv_at hl 2 rfl) ?_
      obtain ⟨g_10, hE⟩ := gd_e hE
      refine y_iald C hW k_r_9 g_10 dX0_queueEnds_112 ?_
      refine lv_isub C.1 C.2.1 dX0_queueEnds_113 ?_
      refine lv_iconst (v := (1 : Int32)) C.1 C.2.1 dX0_queueEnds_114 (by decide) ?_
      refine lv_iand C.1 C.2.1 dX0_queueEnds_115 ?_
      obtain ⟨h_11, eh_11, hE⟩ := nm_e2 hE
      refine pf_X0_192 C hW hZ k_r_8 eh_11 dX0_queueEnds_116 (fun _ _ hW km hZ => ?_)
      replace hkm := hkm.tr km
      replace k_x0 := km.at k_x0 (by decide)
      refine lv_aload_n C.1 C.2.1 dX0_queueEnds_119 rfl (lv_at hl 1 rfl) ?_
      obtain ⟨r_12, er_12, hE⟩ := cl_e hE
      refine gf_X0_31 C hW k_x0 er_12 dX0_queueEnds_120 (fun k_r_12 => ?_)
      refine lv_iload_n C.1 C.2.1 dX0_queueEnds_123 rfl (lv_at hl 3 rfl) ?_
      refine lv_aload_n C.1 C.2.1 dX0_queueEnds_124 rfl (lv_at hl 1 rfl) ?_
      refine lv_aload_n C.1 C.2.1 dX0_queueEnds_125 rfl (lv_at hl 1 rfl) ?_
      obtain ⟨r_13, er_13, hE⟩ := cl_e hE
      refine gf_X0_48 C hW k_x0 er_13 dX0_queueEnds_126 (fun k_r_13 => ?_)
      refine lv_aload_n C.1 C.2.1 dX0_queueEnds_129 rfl (lv_at hl 1 rfl) ?_
      obtain ⟨r_14, er_14, hE⟩ := cl_e hE
      refine gf_X0_14 C hW k_x0 er_14 dX0_queueEnds_130 (fun k_r_14 => ?_)
      refine lv_aload_n C.1 C.2.1 dX0_queueEnds_133 rfl (lv_at hl 1 rfl) ?_
      obtain ⟨r_15, er_15, hE⟩ := cl_e hE
      refine gf_X0_14 C hW k_x0 er_15 dX0_queueEnds_134 (fun k_r_15 => ?_)
      refine gf_X0_192 C hW k_r_15 dX0_queueEnds_137 ?_
      obtain ⟨o_16, eo_16, hE⟩ := cl_e hE
      refine x_kI (o := o_16) (z_runV (As := [.ref r_14, .int (hI h_11 r_15 5)]) (rest := [.ref x0, .int x2, .ref r_12]) C (ct_X5_isRoyalHit l X F k_r_13 k_r_14 eo_16) cw_X0_195 hW hZ k_r_13 (by decide) rfl rfl rfl hl.1 (Nat.le_of_ble_eq_true rfl) rfl dX0_queueEnds_140 ⟨Nat.le_of_ble_eq_true rfl, Nat.le_of_ble_eq_true rfl⟩ ⟨Nat.le_refl _, Nat.le_refl _⟩) hZ (fun _ _ hW km hZ => ?_)
      replace hkm := hkm.tr km
      replace k_x0 := km.at k_x0 (by decide)
      replace k_r_12 := km.at k_r_12 (by decide)
      refine lv_if_eq (tgt := 150) C.1 C.2.1 dX0_queueEnds_143 (by decide) (fun c_17 => ?_) (fun c_17 => ?_)
      · have hE := br_p hE c_17
        refine lv_bipush (v := (6 : Int32)) C.1 C.2.1 dX0_queueEnds_150 (by decide) ?_
        exact bX0_queueEnds_152 C hk_2 hk_17 k_x0 k_x0 k_r_12 hkm hW hZ _ (lv_sub hl [1, 2, 3] rfl) hE
      · have hE := br_n hE c_17
        refine lv_iconst (v := (5 : Int32)) C.1 C.2.1 dX0_queueEnds_146 (by decide) ?_
        refine lv_goto (tgt := 152) C.1 C.2.1 dX0_queueEnds_147 (by decide) ?_
        exact bX0_queueEnds_152 C hk_2 hk_17 k_x0 k_x0 k_r_12 hkm hW hZ _ (lv_sub hl [1, 2, 3] rfl) hE
set_option maxRecDepth 20000 in
theorem bX0_queueEnds_73 {p : Program} {l : Launch} {e : Env} {s : State} {m : MethodId} {args : Array Value} {below : List Frame} {meth : Method} {c : Code} {X : Ec} {h0 : Hp} {o : Hp} {k_2 : Hp → Nat → Int32 → Option (Hp)} {k_17 : Hp → Nat → Int32 → Int32 → Option (Hp)} {F : Nat} (C : Cx X p s m args meth c RX0 cX0_queueEnds 4 none "queueEnds") (hk_2 : ∀ (h : Hp) (x0 : Nat) (x1 : Int32) (H : Heap) (locs : List Loc), hK h x0 = 0 → Km h0 h → Wx X h H → va_S (aA (eB X)) s.heap H locs → ∀ (ls : Array Slot), lv_has ls 4 [(0, .ref x0), (1, .int x1)] → k_2 h x0 x1 = some o → W p l e (rm 3 75) s m args below meth c H locs 0 0 (MQ below (QV X h0 o) args s 0 0 (aA (eB X))) (F0 m 2 ls [])) (hk_17 : ∀ (h : Hp) (x0 : Nat) (x1 : Int32) (x2 : Int32) (H : Heap) (locs : List Loc), hK h x0 = 0 → Km h0 h → Wx X h H → va_S (aA (eB X)) s.heap H locs → ∀ (ls : Array Slot), lv_has ls 4 [(0, .ref x0), (1, .int x1), (2, .int x2)] → k_17 h x0 x1 x2 = some o → W p l e (rm 3 75) s m args below meth c H locs 0 0 (MQ below (QV X h0 o) args s 0 0 (aA (eB X))) (F0 m 17 ls [])) {h : Hp} {x0 : Nat} {x1 : Int32} {x2 : Int32} {H : Heap} {locs : List Loc} (k_x0 : hK h x0 = 0) (hkm : Km h0 h) (hW : Wx X h H) (hZ : va_S (aA (eB X)) s.heap H locs) (ls : Array Slot) (hl : lv_has ls 4 [(0, .ref x0), (1, .int x1), (2, .int x2)]) (hE : sX0_queueEnds_73 F k_2 k_17 h x0 x1 x2 = some o) : W p l e (rm 3 75) s m args below meth c H locs 0 0 (MQ below (QV X h0 o) args s 0 0 (aA (eB X))) (F0 m 73 ls []) := by
  refine lv_iconst (v := (0 : Int32)) C.1 C.2.1 dX0_queueEnds_73 (by decide) ?_
  exact bX0_queueEnds_74 C hk_2 hk_17 k_x0 hkm hW hZ _ (lv_sub hl [0, 1, 2] rfl) hE
set_option maxRecDepth 20000 in
theorem bX0_queueEnds_45 {p : Program} {l : Launch} {e : Env} {s : State} {m : MethodId} {args : Array Value} {below : List Frame} {meth : Method} {c : Code} {X : Ec} {h0 : Hp} {o : Hp} {k_2 : Hp → Nat → Int32 → Option (Hp)} {k_17 : Hp → Nat → Int32 → Int32 → Option (Hp)} {F : Nat} (C : Cx X p s m args meth c RX0 cX0_queueEnds 4 none "queueEnds") (hk_2 : ∀ (h : Hp) (x0 : Nat) (x1 : Int32) (H : Heap) (locs : List Loc), hK h x0 = 0 → Km h0 h → Wx X h H → va_S (aA (eB X)) s.heap H locs → ∀ (ls : Array Slot), lv_has ls 4 [(0, .ref x0), (1, .int x1)] → k_2 h x0 x1 = some o → W p l e (rm 3 75) s m args below meth c H locs 0 0 (MQ below (QV X h0 o) args s 0 0 (aA (eB X))) (F0 m 2 ls [])) (hk_17 : ∀ (h : Hp) (x0 : Nat) (x1 : Int32) (x2 : Int32) (H : Heap) (locs : List Loc), hK h x0 = 0 → Km h0 h → Wx X h H → va_S (aA (eB X)) s.heap H locs → ∀ (ls : Array Slot), lv_has ls 4 [(0, .ref x0), (1, .int x1), (2, .int x2)] → k_17 h x0 x1 x2 = some o → W p l e (rm 3 75) s m args below meth c H locs 0 0 (MQ below (QV X h0 o) args s 0 0 (aA (eB X))) (F0 m 17 ls [])) {h : Hp} {x0 : Nat} {x1 : Int32} {x2 : Int32} {H : Heap} {locs : List Loc} (k_x0 : hK h x0 = 0) (hkm : Km h0 h) (hW : Wx X h H) (hZ : va_S (aA (eB X)) s.heap H locs) (ls : Array Slot) (hl : lv_has ls 4 [(0, .ref x0), (1, .int x1), (2, .int x2)]) (hE : sX0_queueEnds_45 F k_2 k_17 h x0 x1 x2 = some o) : W p l e (rm 3 75) s m args below meth c H locs 0 0 (MQ below (QV X h0 o) args s 0 0 (aA (eB X))) (F0 m 45 ls []) := by
  refine lv_aload_n C.1 C.2.1 dX0_queueEnds_45 rfl (lv_at hl 0 rfl) ?_
  obtain ⟨r_1, er_1, hE⟩ := cl_e hE
  refine gf_X0_31 C hW k_x0 er_1 dX0_queueEnds_46 (fun k_r_1 => ?_)
  refine lv_iload_n C.1 C.2.1 dX0_queueEnds_49 rfl (lv_at hl 2 rfl) ?_
  obtain ⟨g_2, hE⟩ := gd_e hE
  refine y_iald C hW k_r_1 g_2 dX0_queueEnds_50 ?_
  refine lv_ldc (v := (3000000 : Int32)) C.1 C.2.1 C.2.2.2.1 (C.2.2.2.2.1 _ m_1685) dX0_queueEnds_51 ?_
  refine lv_icmp_ne (tgt := 73) C.1 C.2.1 dX0_queueEnds_53 (by decide) (fun c_3 => ?_) (fun c_3 => ?_)
  · have hE := br_n hE c_3
    exact bX0_queueEnds_73 C hk_2 hk_17 k_x0 hkm hW hZ _ (lv_sub hl [0, 1, 2] rfl) hE
  · have hE := br_p hE c_3
    refine lv_aload_n C.1 C.2.1 dX0_queueEnds_56 rfl (lv_at hl 0 rfl) ?_
    obtain ⟨r_4, er_4, hE⟩ := cl_e hE
    refine gf_X0_34 C hW k_x0 er_4 dX0_queueEnds_57 (fun k_r_4 => ?_)
    refine lv_iload_n C.1 C.2.1 dX0_queueEnds_60 rfl (lv_at hl 2 rfl) ?_
    obtain ⟨g_5, hE⟩ := gd_e hE
    refine y_iald C hW k_r_4 g_5 dX0_queueEnds_61 ?_
    refine lv_sipush (v := (4095 : Int32)) C.1 C.2.1 dX0_queueEnds_62 (by decide) ?_
    refine lv_iand C.1 C.2.1 dX0_queueEnds_65 ?_
    refine lv_if_ne (tgt := 73) C.1 C.2.1 dX0_queueEnds_66 (by decide) (fun c_6 => ?_) (fun c_6 => ?_)
    · have hE := br_n hE c_6
      exact bX0_queueEnds_73 C hk_2 hk_17 k_x0 hkm hW hZ _ (lv_sub hl [0, 1, 2] rfl) hE
    · have hE := br_p hE c_6
      refine lv_iconst (v := (1 : Int32)) C.1 C.2.1 dX0_queueEnds_69 (by decide) ?_
      refine lv_goto (tgt := 74) C.1 C.2.1 dX0_queueEnds_70 (by decide) ?_
      exact bX0_queueEnds_74 C hk_2 hk_17 k_x0 hkm hW hZ _ (lv_sub hl [0, 1, 2] rfl) hE
set_option maxRecDepth 20000 in
theorem bX0_queueEnds_17 {p : Program} {l : Launch} {e : Env} {s : State} {m : MethodId} {args : Array Value} {below : List Frame} {meth : Method} {c : Code} {X : Ec} {h0 : Hp} {o : Hp} {k_2 : Hp → Nat → Int32 → Option (Hp)} {F : Nat} (C : Cx X p s m args meth c RX0 cX0_queueEnds 4 none "queueEnds") (hk_2 : ∀ (h : Hp) (x0 : Nat) (x1 : Int32) (H : Heap) (locs : List Loc), hK h x0 = 0 → Km h0 h → Wx X h H → va_S (aA (eB X)) s.heap H locs → ∀ (ls : Array Slot), lv_has ls 4 [(0, .ref x0), (1, .int x1)] → k_2 h x0 x1 = some o → W p l e (rm 3 75) s m args below meth c H locs 0 0 (MQ below (QV X h0 o) args s 0 0 (aA (eB X))) (F0 m 2 ls [])) : ∀ (f : Nat) {h : Hp} {x0 : Nat} {x1 : Int32} {x2 : Int32} {H : Heap} {locs : List Loc} (k_x0 : hK h x0 = 0), Km h0 h → Wx X h H → va_S (aA (eB X)) s.heap H locs → ∀ (ls : Array Slot), lv_has ls 4 [(0, .ref x0), (1, .int x1), (2, .int x2)] → sX0_queueEnds_17 F k_2 f h x0 x1 x2 = some o → W p l e (rm 3 75) s m args below meth c H locs 0 0 (MQ below (QV X h0 o) args s 0 0 (aA (eB X))) (F0 m 17 ls []) := by
  intro f
  induction f with
  | zero =>
    intro h x0 x1 x2 H locs k_x0 hkm hW hZ ls hl hE
    rw [sX0_queueEnds_17] at hE
    cases hE
  | succ f ih =>
    intro h x0 x1 x2 H locs k_x0 hkm hW hZ ls hl hE
    rw [sX0_queueEnds_17] at hE
    have hk_17 : ∀ (h : Hp) (x0 : Nat) (x1 : Int32) (x2 : Int32) (H : Heap) (locs : List Loc), hK h x0 = 0 → Km h0 h → Wx X h H → va_S (aA (eB X)) s.heap H locs → ∀ (ls : Array Slot), lv_has ls 4 [(0, .ref x0), (1, .int x1), (2, .int x2)] → sX0_queueEnds_17 F k_2 f h x0 x1 x2 = some o → W p l e (rm 3 75) s m args below meth c H locs 0 0 (MQ below (QV X h0 o) args s 0 0 (aA (eB X))) (F0 m 17 ls []) := fun h x0 x1 x2 H locs k_x0 a b c ls hl hE => ih k_x0 a b c ls hl hE
    refine lv_iload_n C.1 C.2.1 dX0_queueEnds_17 rfl (lv_at hl 2 rfl) ?_
    refine lv_aload_n C.1 C.2.1 dX0_queueEnds_18 rfl (lv_at hl 0 rfl) ?_
    obtain ⟨r_1, er_1, hE⟩ := cl_e hE
    refine gf_X0_22 C hW k_x0 er_1 dX0_queueEnds_19 (fun k_r_1 => ?_)
    refine lv_iload_n C.1 C.2.1 dX0_queueEnds_22 rfl (lv_at hl 1 rfl) ?_
    refine lv_iconst (v := (1 : Int32)) C.1 C.2.1 dX0_queueEnds_23 (by decide) ?_
    refine lv_iadd C.1 C.2.1 dX0_queueEnds_24 ?_
    obtain ⟨g_2, hE⟩ := gd_e hE
    refine y_iald C hW k_r_1 g_2 dX0_queueEnds_25 ?_
    refine lv_icmp_ge (tgt := 189) C.1 C.2.1 dX0_queueEnds_26 (by decide) (fun c_3 => ?_) (fun c_3 => ?_)
    · have hE := br_p hE c_3
      obtain ⟨v_4, ev_4, hE⟩ := nm_e2 hE
      refine lv_iinc (v := v_4) (lv' := [(1, .int v_4), (0, .ref x0), (2, .int x2)]) C.1 C.2.1 dX0_queueEnds_189 hl (k := 1) rfl (by rw [ev_4]; rfl) (by decide) rfl (fun ls hl => ?_)
      refine lv_goto (tgt := 2) C.1 C.2.1 dX0_queueEnds_192 (by decide) ?_
      exact hk_2 _ _ _ _ _ k_x0 hkm hW hZ _ (lv_sub hl [1, 0] rfl) hE
    · have hE := br_n hE c_3
      refine lv_aload_n C.1 C.2.1 dX0_queueEnds_29 rfl (lv_at hl 0 rfl) ?_
      obtain ⟨r_5, er_5, hE⟩ := cl_e hE
      refine gf_X0_31 C hW k_x0 er_5 dX0_queueEnds_30 (fun k_r_5 => ?_)
      refine lv_iload_n C.1 C.2.1 dX0_queueEnds_33 rfl (lv_at hl 2 rfl) ?_
      obtain ⟨g_6, hE⟩ := gd_e hE
      refine y_iald C hW k_r_5 g_6 dX0_queueEnds_34 ?_
      refine lv_ldc (v := (3000000 : Int32)) C.1 C.2.1 C.2.2.2.1 (C.2.2.2.2.1 _ m_1685) dX0_queueEnds_35 ?_
      refine lv_icmp_ne (tgt := 45) C.1 C.2.1 dX0_queueEnds_37 (by decide) (fun c_7 => ?_) (fun c_7 => ?_)
      · have hE := br_n hE c_7
        exact bX0_queueEnds_45 C hk_2 hk_17 k_x0 hkm hW hZ _ (lv_sub hl [0, 1, 2] rfl) hE
      · have hE := br_p hE c_7
        refine lv_aload_n C.1 C.2.1 dX0_queueEnds_40 rfl (lv_at hl 0 rfl) ?_
        refine lv_iload_n C.1 C.2.1 dX0_queueEnds_41 rfl (lv_at hl 2 rfl) ?_
        obtain ⟨o_8, eo_8, hE⟩ := cl_e hE
        refine x_kV (o := o_8) (z_runV (As := [.int x2]) (rest := []) C (ct_X0_settleCount l X k_x0 eo_8) cw_X0_214 hW hZ k_x0 (by decide) rfl rfl rfl hl.1 (Nat.le_of_ble_eq_true rfl) rfl dX0_queueEnds_42 ⟨Nat.le_of_ble_eq_true rfl, Nat.le_of_ble_eq_true rfl⟩ ⟨Nat.le_refl _, Nat.le_refl _⟩) hZ (fun _ _ hW km hZ => ?_)
        replace hkm := hkm.tr km
        replace k_x0 := km.at k_x0 (by decide)
        exact bX0_queueEnds_45 C hk_2 hk_17 k_x0 hkm hW hZ _ (lv_sub hl [0, 1, 2] rfl) hE
set_option maxRecDepth 20000 in
theorem bX0_queueEnds_2 {p : Program} {l : Launch} {e : Env} {s : State} {m : MethodId} {args : Array Value} {below : List Frame} {meth : Method} {c : Code} {X : Ec} {h0 : Hp} {o : Hp} {F : Nat} (C : Cx X p s m args meth c RX0 cX0_queueEnds 4 none "queueEnds") : ∀ (f : Nat) {h : Hp} {x0 : Nat} {x1 : Int32} {H : Heap} {locs : List Loc} (k_x0 : hK h x0 = 0), Km h0 h → Wx X h H → va_S (aA (eB X)) s.heap H locs → ∀ (ls : Array Slot), lv_has ls 4 [(0, .ref x0), (1, .int x1)] → sX0_queueEnds_2 F f h x0 x1 = some o → W p l e (rm 3 75) s m args below meth c H locs 0 0 (MQ below (QV X h0 o) args s 0 0 (aA (eB X))) (F0 m 2 ls []) := by
  intro f
  induction f with
  | zero =>
    intro h x0 x1 H locs k_x0 hkm hW hZ ls hl hE
    rw [sX0_queueEnds_2] at hE
    cases hE
  | succ f ih =>
    intro h x0 x1 H locs k_x0 hkm hW hZ ls hl hE
    rw [sX0_queueEnds_2] at hE
    have hk_2 : ∀ (h : Hp) (x0 : Nat) (x1 : Int32) (H : Heap) (locs : List Loc), hK h x0 = 0 → Km h0 h → Wx X h H → va_S (aA (eB X)) s.heap H locs → ∀ (ls : Array Slot), lv_has ls 4 [(0, .ref x0), (1, .int x1)] → sX0_queueEnds_2 F f h x0 x1 = some o → W p l e (rm 3 75) s m args below meth c H locs 0 0 (MQ below (QV X h0 o) args s 0 0 (aA (eB X))) (F0 m 2 ls []) := fun h x0 x1 H locs k_x0 a b c ls hl hE => ih k_x0 a b c ls hl hE
    refine lv_iload_n C.1 C.2.1 dX0_queueEnds_2 rfl (lv_at hl 1 rfl) ?_
    refine lv_aload_n C.1 C.2.1 dX0_queueEnds_3 rfl (lv_at hl 0 rfl) ?_
    refine gf_X0_128 C hW k_x0 dX0_queueEnds_4 ?_
    refine lv_icmp_ge (tgt := 195) C.1 C.2.1 dX0_queueEnds_7 (by decide) (fun c_1 => ?_) (fun c_1 => ?_)
    · have hE := br_p hE c_1
      exact x_vret C rfl hW hZ hkm hE dX0_queueEnds_195
    · have hE := br_n hE c_1
      refine lv_aload_n C.1 C.2.1 dX0_queueEnds_10 rfl (lv_at hl 0 rfl) ?_
      obtain ⟨r_2, er_2, hE⟩ := cl_e hE
      refine gf_X0_22 C hW k_x0 er_2 dX0_queueEnds_11 (fun k_r_2 => ?_)
      refine lv_iload_n C.1 C.2.1 dX0_queueEnds_14 rfl (lv_at hl 1 rfl) ?_
      obtain ⟨g_3, hE⟩ := gd_e hE
      refine y_iald C hW k_r_2 g_3 dX0_queueEnds_15 ?_
      obtain ⟨v_4, ev_4, hE⟩ := nm_e2 hE
      refine x_nmI ev_4 ?_
      refine lv_istore_n (lv' := [(2, .int v_4), (0, .ref x0), (1, .int x1)]) C.1 C.2.1 dX0_queueEnds_16 rfl hl (by decide) rfl (fun ls hl => ?_)
      exact bX0_queueEnds_17 C hk_2 F k_x0 hkm hW hZ _ (lv_sub hl [1, 2, 0] rfl) hE
set_option maxRecDepth 20000 in
theorem ct_X0_queueEnds (l : Launch) (X : Ec) (F : Nat) {h : Hp} {x0 : Nat} {o : Hp} (k_x0 : hK h x0 = 0) (hE : sX0_queueEnds F h x0 = some o) : MetV l yX0_queueEnds cX0_queueEnds 4 none 3 75 X [.ref x0] h o := by
  refine x_met (by decide) (Nat.le_of_ble_eq_true rfl) ?_
  intro p e s m below meth c ls C hl hW hZ
  have hl : lv_has ls 4 [(0, .ref x0)] := hl
  have hkm : Km h h := Km.rf h
  refine lv_iconst (v := (0 : Int32)) C.1 C.2.1 dX0_queueEnds_0 (by decide) ?_
  refine lv_istore_n (lv' := [(1, .int (0 : Int32)), (0, .ref x0)]) C.1 C.2.1 dX0_queueEnds_1 rfl hl (by decide) rfl (fun ls hl => ?_)
  exact bX0_queueEnds_2 C F k_x0 hkm hW hZ _ (lv_sub hl [1, 0] rfl) hE
theorem dX0_setOf_0 : decode cX0_setOf 0 = .ok (.iconst 0, 1) := by decide +kernel
theorem dX0_setOf_1 : decode cX0_setOf 1 = .ok (.istore_n 2, 1) := by decide +kernel
theorem dX0_setOf_2 : decode cX0_setOf 2 = .ok (.aload_n 0, 1) := by decide +kernel
theorem dX0_setOf_3 : decode cX0_setOf 3 = .ok (.getfield 128, 3) := by decide +kernel
theorem dX0_setOf_6 : decode cX0_setOf 6 = .ok (.iconst 1, 1) := by decide +kernel
theorem dX0_setOf_7 : decode cX0_setOf 7 = .ok (.isub, 1) := by decide +kernel
theorem dX0_setOf_8 : decode cX0_setOf 8 = .ok (.istore_n 3, 1) := by decide +kernel
theorem dX0_setOf_9 : decode cX0_setOf 9 = .ok (.iload_n 2, 1) := by decide +kernel
theorem dX0_setOf_10 : decode cX0_setOf 10 = .ok (.iload_n 3, 1) := by decide +kernel
theorem dX0_setOf_11 : decode cX0_setOf 11 = .ok (.if_icmp .ge 37, 3) := by decide +kernel
theorem dX0_setOf_14 : decode cX0_setOf 14 = .ok (.iload_n 2, 1) := by decide +kernel
theorem dX0_setOf_15 : decode cX0_setOf 15 = .ok (.iload_n 3, 1) := by decide +kernel
theorem dX0_setOf_16 : decode cX0_setOf 16 = .ok (.iadd, 1) := by decide +kernel
theorem dX0_setOf_17 : decode cX0_setOf 17 = .ok (.iconst 1, 1) := by decide +kernel
theorem dX0_setOf_18 : decode cX0_setOf 18 = .ok (.iadd, 1) := by decide +kernel
theorem dX0_setOf_19 : decode cX0_setOf 19 = .ok (.iconst 1, 1) := by decide +kernel
theorem dX0_setOf_20 : decode cX0_setOf 20 = .ok (.ishr, 1) := by decide +kernel
theorem dX0_setOf_21 : decode cX0_setOf 21 = .ok (.istore 4, 2) := by decide +kernel
theorem dX0_setOf_23 : decode cX0_setOf 23 = .ok (.aload_n 0, 1) := by decide +kernel
theorem dX0_setOf_24 : decode cX0_setOf 24 = .ok (.getfield 22, 3) := by decide +kernel
theorem dX0_setOf_27 : decode cX0_setOf 27 = .ok (.iload 4, 2) := by decide +kernel
theorem dX0_setOf_29 : decode cX0_setOf 29 = .ok (.iaload, 1) := by decide +kernel
theorem dX0_setOf_30 : decode cX0_setOf 30 = .ok (.iload_n 1, 1) := by decide +kernel
theorem dX0_setOf_31 : decode cX0_setOf 31 = .ok (.if_icmp .gt 9, 3) := by decide +kernel
theorem dX0_setOf_34 : decode cX0_setOf 34 = .ok (.iload 4, 2) := by decide +kernel
theorem dX0_setOf_36 : decode cX0_setOf 36 = .ok (.istore_n 2, 1) := by decide +kernel
theorem dX0_setOf_37 : decode cX0_setOf 37 = .ok (.goto 8, 3) := by decide +kernel
theorem dX0_setOf_40 : decode cX0_setOf 40 = .ok (.iload 4, 2) := by decide +kernel
theorem dX0_setOf_42 : decode cX0_setOf 42 = .ok (.iconst 1, 1) := by decide +kernel
theorem dX0_setOf_43 : decode cX0_setOf 43 = .ok (.isub, 1) := by decide +kernel
theorem dX0_setOf_44 : decode cX0_setOf 44 = .ok (.istore_n 3, 1) := by decide +kernel
theorem dX0_setOf_45 : decode cX0_setOf 45 = .ok (.goto (-36), 3) := by decide +kernel
theorem dX0_setOf_48 : decode cX0_setOf 48 = .ok (.iload_n 2, 1) := by decide +kernel
theorem dX0_setOf_49 : decode cX0_setOf 49 = .ok (.ireturn, 1) := by decide +kernel
def sX0_setOf_45 (F : Nat) (k_9 : Hp → Nat → Int32 → Int32 → Int32 → Option (Int32 × Hp)) (h : Hp) (x0 : Nat) (x1 : Int32) (x2 : Int32) (x3 : Int32) : Option (Int32 × Hp) := k_9 h x0 x1 x2 x3
def sX0_setOf_9 (F : Nat) : Nat → Hp → Nat → Int32 → Int32 → Int32 → Option (Int32 × Hp)
  | 0, _, _, _, _, _ => none
  | f + 1, h, x0, x1, x2, x3 => br (x3 ≤ x2) (some (x2, h)) (nm (((x2 + x3) + (1 : Int32)) >>> ((1 : Int32) &&& 31)) fun v_2 => cl (hR h x0 5) fun r_3 => gd (inB v_2 (hN h r_3)) <| br (x1 < (hI h r_3 v_2.toNatClampNeg)) (nm (v_2 - (1 : Int32)) fun v_6 => sX0_setOf_45 F (sX0_setOf_9 F f) h x0 x1 x2 v_6) (sX0_setOf_45 F (sX0_setOf_9 F f) h x0 x1 v_2 x3))
def sX0_setOf (F : Nat) (h : Hp) (x0 : Nat) (x1 : Int32) : Option (Int32 × Hp) := nm ((hI h x0 9) - (1 : Int32)) fun v_1 => sX0_setOf_9 F F h x0 x1 (0 : Int32) v_1
set_option maxRecDepth 20000 in
theorem moX0_setOf_45 {o : Int32 × Hp} {k_9 : Hp → Nat → Int32 → Int32 → Int32 → Option (Int32 × Hp)} {F : Nat} (mk_9 : ∀ (h : Hp) (x0 : Nat) (x1 : Int32) (x2 : Int32) (x3 : Int32), k_9 h x0 x1 x2 x3 = some o → Le h o.2) {h : Hp} {x0 : Nat} {x1 : Int32} {x2 : Int32} {x3 : Int32} (hE : sX0_setOf_45 F k_9 h x0 x1 x2 x3 = some o) : Le h o.2 := by
  exact mk_9 _ _ _ _ _ hE
set_option maxRecDepth 20000 in
theorem moX0_setOf_9 {o : Int32 × Hp} {F : Nat} : ∀ (f : Nat) {h : Hp} {x0 : Nat} {x1 : Int32} {x2 : Int32} {x3 : Int32}, sX0_setOf_9 F f h x0 x1 x2 x3 = some o → Le h o.2 := by
  intro f
  induction f with
  | zero =>
    intro h x0 x1 x2 x3 hE
    rw [sX0_setOf_9] at hE
    cases hE
  | succ f ih =>
    intro h x0 x1 x2 x3 hE
    rw [sX0_setOf_9] at hE
    have mk_9 : ∀ (h : Hp) (x0 : Nat) (x1 : Int32) (x2 : Int32) (x3 : Int32), sX0_setOf_9 F f h x0 x1 x2 x3 = some o → Le h o.2 := fun h x0 x1 x2 x3 hE => ih hE
    rcases br_e hE with ⟨_, hE⟩ | ⟨_, hE⟩
    · cases hE
      exact Le.rf _
    · obtain ⟨v_2, ev_2, hE⟩ := nm_e2 hE
      obtain ⟨r_3, er_3, hE⟩ := cl_e hE
      obtain ⟨g_4, hE⟩ := gd_e hE
      rcases br_e hE with ⟨_, hE⟩ | ⟨_, hE⟩
      · obtain ⟨v_6, ev_6, hE⟩ := nm_e2 hE
        exact moX0_setOf_45 mk_9 hE
      · exact moX0_setOf_45 mk_9 hE
set_option maxRecDepth 20000 in
theorem moX0_setOf {o : Int32 × Hp} {F : Nat} {h : Hp} {x0 : Nat} {x1 : Int32} (hE : sX0_setOf F h x0 x1 = some o) : Le h o.2 := by
  obtain ⟨v_1, ev_1, hE⟩ := nm_e2 hE
  exact moX0_setOf_9 _ hE
set_option maxRecDepth 20000 in
theorem bX0_setOf_45 {p : Program} {l : Launch} {e : Env} {s : State} {m : MethodId} {args : Array Value} {below : List Frame} {meth : Method} {c : Code} {X : Ec} {h0 : Hp} {o : Int32 × Hp} {k_9 : Hp → Nat → Int32 → Int32 → Int32 → Option (Int32 × Hp)} {F : Nat} (C : Cx X p s m args meth c RX0 cX0_setOf 5 (some .int) "setOf") (hk_9 : ∀ (h : Hp) (x0 : Nat) (x1 : Int32) (x2 : Int32) (x3 : Int32) (H : Heap) (locs : List Loc), hK h x0 = 0 → Km h0 h → Wx X h H → va_S (aA (eB X)) s.heap H locs → ∀ (ls : Array Slot), lv_has ls 5 [(0, .ref x0), (1, .int x1), (2, .int x2), (3, .int x3)] → k_9 h x0 x1 x2 x3 = some o → W p l e (rm 0 0) s m args below meth c H locs 0 0 (MQ below (QI X h0 o.1 o.2) args s 0 0 (aA (eB X))) (F0 m 9 ls [])) {h : Hp} {x0 : Nat} {x1 : Int32} {x2 : Int32} {x3 : Int32} {H : Heap} {locs : List Loc} (k_x0 : hK h x0 = 0) (hkm : Km h0 h) (hW : Wx X h H) (hZ : va_S (aA (eB X)) s.heap H locs) (ls : Array Slot) (hl : lv_has ls 5 [(0, .ref x0), (1, .int x1), (2, .int x2), (3, .int x3)]) (hE : sX0_setOf_45 F k_9 h x0 x1 x2 x3 = some o) : W p l e (rm 0 0) s m args below meth c H locs 0 0 (MQ below (QI X h0 o.1 o.2) args s 0 0 (aA (eB X))) (F0 m 45 ls []) := by
  refine lv_goto (tgt := 9) C.1 C.2.1 dX0_setOf_45 (by decide) ?_
  exact hk_9 _ _ _ _ _ _ _ k_x0 hkm hW hZ _ (lv_sub hl [0, 1, 2, 3] rfl) hE
set_option maxRecDepth 20000 in
theorem bX0_setOf_9 {p : Program} {l : Launch} {e : Env} {s : State} {m : MethodId} {args : Array Value} {below : List Frame} {meth : Method} {c : Code} {X : Ec} {h0 : Hp} {o : Int32 × Hp} {F : Nat} (C : Cx X p s m args meth c RX0 cX0_setOf 5 (some .int) "setOf") : ∀ (f : Nat) {h : Hp} {x0 : Nat} {x1 : Int32} {x2 : Int32} {x3 : Int32} {H : Heap} {locs : List Loc} (k_x0 : hK h x0 = 0), Km h0 h → Wx X h H → va_S (aA (eB X)) s.heap H locs → ∀ (ls : Array Slot), lv_has ls 5 [(0, .ref x0), (1, .int x1), (2, .int x2), (3, .int x3)] → sX0_setOf_9 F f h x0 x1 x2 x3 = some o → W p l e (rm 0 0) s m args below meth c H locs 0 0 (MQ below (QI X h0 o.1 o.2) args s 0 0 (aA (eB X))) (F0 m 9 ls []) := by
  intro f
  induction f with
  | zero =>
    intro h x0 x1 x2 x3 H locs k_x0 hkm hW hZ ls hl hE
    rw [sX0_setOf_9] at hE
    cases hE
  | succ f ih =>
    intro h x0 x1 x2 x3 H locs k_x0 hkm hW hZ ls hl hE
    rw [sX0_setOf_9] at hE
    have hk_9 : ∀ (h : Hp) (x0 : Nat) (x1 : Int32) (x2 : Int32) (x3 : Int32) (H : Heap) (locs : List Loc), hK h x0 = 0 → Km h0 h → Wx X h H → va_S (aA (eB X)) s.heap H locs → ∀ (ls : Array Slot), lv_has ls 5 [(0, .ref x0), (1, .int x1), (2, .int x2), (3, .int x3)] → sX0_setOf_9 F f h x0 x1 x2 x3 = some o → W p l e (rm 0 0) s m args below meth c H locs 0 0 (MQ below (QI X h0 o.1 o.2) args s 0 0 (aA (eB X))) (F0 m 9 ls []) := fun h x0 x1 x2 x3 H locs k_x0 a b c ls hl hE => ih k_x0 a b c ls hl hE
    refine lv_iload_n C.1 C.2.1 dX0_setOf_9 rfl (lv_at hl 2 rfl) ?_
    refine lv_iload_n C.1 C.2.1 dX0_setOf_10 rfl (lv_at hl 3 rfl) ?_
    refine lv_icmp_ge (tgt := 48) C.1 C.2.1 dX0_setOf_11 (by decide) (fun c_1 => ?_) (fun c_1 => ?_)
    · have hE := br_p hE c_1
      refine lv_iload_n C.1 C.2.1 dX0_setOf_48 rfl (lv_at hl 2 rfl) ?_
      exact x_iret C rfl rfl hW hZ hkm hE dX0_setOf_49
    · have hE := br_n hE c_1
      refine lv_iload_n C.1 C.2.1 dX0_setOf_14 rfl (lv_at hl 2 rfl) ?_
      refine lv_iload_n C.1 C.2.1 dX0_setOf_15 rfl (lv_at hl 3 rfl) ?_
      refine lv_iadd C.1 C.2.1 dX0_setOf_16 ?_
      refine lv_iconst (v := (1 : Int32)) C.1 C.2.1 dX0_setOf_17 (by decide) ?_
      refine lv_iadd C.1 C.2.1 dX0_setOf_18 ?_
      refine lv_iconst (v := (1 : Int32)) C.1 C.2.1 dX0_setOf_19 (by decide) ?_
      refine lv_ishr C.1 C.2.1 dX0_setOf_20 ?_
      obtain ⟨v_2, ev_2, hE⟩ := nm_e2 hE
      refine x_nmI ev_2 ?_
      refine lv_istore (lv' := [(4, .int v_2), (0, .ref x0), (1, .int x1), (2, .int x2), (3, .int x3)]) C.1 C.2.1 dX0_setOf_21 hl (by decide) rfl (fun ls hl => ?_)
      refine lv_aload_n C.1 C.2.1 dX0_setOf_23 rfl (lv_at hl 1 rfl) ?_
      obtain ⟨r_3, er_3, hE⟩ := cl_e hE
      refine gf_X0_22 C hW k_x0 er_3 dX0_setOf_24 (fun k_r_3 => ?_)
      refine lv_iload C.1 C.2.1 dX0_setOf_27 (lv_at hl 0 rfl) ?_
      obtain ⟨g_4, hE⟩ := gd_e hE
      refine y_iald C hW k_r_3 g_4 dX0_setOf_29 ?_
      refine lv_iload_n C.1 C.2.1 dX0_setOf_30 rfl (lv_at hl 2 rfl) ?_
      refine lv_icmp_gt (tgt := 40) C.1 C.2.1 dX0_setOf_31 (by decide) (fun c_5 => ?_) (fun c_5 => ?_)
      · have hE := br_p hE c_5
        refine lv_iload C.1 C.2.1 dX0_setOf_40 (lv_at hl 0 rfl) ?_
        refine lv_iconst (v := (1 : Int32)) C.1 C.2.1 dX0_setOf_42 (by decide) ?_
        refine lv_isub C.1 C.2.1 dX0_setOf_43 ?_
        obtain ⟨v_6, ev_6, hE⟩ := nm_e2 hE
        refine x_nmI ev_6 ?_
        refine lv_istore_n (lv' := [(3, .int v_6), (4, .int v_2), (0, .ref x0), (1, .int x1), (2, .int x2)]) C.1 C.2.1 dX0_setOf_44 rfl hl (by decide) rfl (fun ls hl => ?_)
        exact bX0_setOf_45 C hk_9 k_x0 hkm hW hZ _ (lv_sub hl [2, 3, 4, 0] rfl) hE
      · have hE := br_n hE c_5
        refine lv_iload C.1 C.2.1 dX0_setOf_34 (lv_at hl 0 rfl) ?_
        refine lv_istore_n (lv' := [(2, .int v_2), (4, .int v_2), (0, .ref x0), (1, .int x1), (3, .int x3)]) C.1 C.2.1 dX0_setOf_36 rfl hl (by decide) rfl (fun ls hl => ?_)
        refine lv_goto (tgt := 45) C.1 C.2.1 dX0_setOf_37 (by decide) ?_
        exact bX0_setOf_45 C hk_9 k_x0 hkm hW hZ _ (lv_sub hl [2, 3, 0, 4] rfl) hE
set_option maxRecDepth 20000 in
theorem ct_X0_setOf (l : Launch) (X : Ec) (F : Nat) {h : Hp} {x0 : Nat} {x1 : Int32} {o : Int32 × Hp} (k_x0 : hK h x0 = 0) (hE : sX0_setOf F h x0 x1 = some o) : MetI l yX0_setOf cX0_setOf 5 (some .int) 0 0 X [.ref x0, .int x1] h o := by
  refine x_met (by decide) (Nat.le_of_ble_eq_true rfl) ?_
  intro p e s m below meth c ls C hl hW hZ
  have hl : lv_has ls 5 [(0, .ref x0), (1, .int x1)] := hl
  have hkm : Km h h := Km.rf h
  refine lv_iconst (v := (0 : Int32)) C.1 C.2.1 dX0_setOf_0 (by decide) ?_
  refine lv_istore_n (lv' := [(2, .int (0 : Int32)), (0, .ref x0), (1, .int x1)]) C.1 C.2.1 dX0_setOf_1 rfl hl (by decide) rfl (fun ls hl => ?_)
  refine lv_aload_n C.1 C.2.1 dX0_setOf_2 rfl (lv_at hl 1 rfl) ?_
  refine gf_X0_128 C hW k_x0 dX0_setOf_3 ?_
  refine lv_iconst (v := (1 : Int32)) C.1 C.2.1 dX0_setOf_6 (by decide) ?_
  refine lv_isub C.1 C.2.1 dX0_setOf_7 ?_
  obtain ⟨v_1, ev_1, hE⟩ := nm_e2 hE
  refine x_nmI ev_1 ?_
  refine lv_istore_n (lv' := [(3, .int v_1), (2, .int (0 : Int32)), (0, .ref x0), (1, .int x1)]) C.1 C.2.1 dX0_setOf_8 rfl hl (by decide) rfl (fun ls hl => ?_)
  exact bX0_setOf_9 C F k_x0 hkm hW hZ _ (lv_sub hl [2, 3, 1, 0] rfl) hE
theorem ms_112 : Cond.selects RX0 yX0_setOf yX0_setOf ∈ W0 := w0_in (List.mem_append_left _ (List.mem_of_getElem? (i := 112) (by decide +kernel))) rfl
theorem ms_110 : Cond.selects RX0 yX0_queueEnds yX0_queueEnds ∈ W0 := w0_in (List.mem_append_left _ (List.mem_of_getElem? (i := 110) (by decide +kernel))) rfl
theorem ms_98 : Cond.selects RX0 yX0_countAll yX0_countAll ∈ W0 := w0_in (List.mem_append_left _ (List.mem_of_getElem? (i := 98) (by decide +kernel))) rfl
theorem ms_94 : Cond.selects RX0 yX0_markAll yX0_markAll ∈ W0 := w0_in (List.mem_append_left _ (List.mem_of_getElem? (i := 94) (by decide +kernel))) rfl
theorem ms_93 : Cond.selects RX0 yX0_makeRoom yX0_makeRoom ∈ W0 := w0_in (List.mem_append_left _ (List.mem_of_getElem? (i := 93) (by decide +kernel))) rfl
theorem ms_89 : Cond.selects RX0 yX0_gatherSets yX0_gatherSets ∈ W0 := w0_in (List.mem_append_left _ (List.mem_of_getElem? (i := 89) (by decide +kernel))) rfl
theorem m_467 : Cond.fieldLink RX0 77 (TX0 10).1 (TX0 10).2.1 (TX0 10).2.2.1 ∈ W0 := w0_in (List.mem_append_right _ (List.mem_of_getElem? (i := 467) (by decide +kernel))) rfl
theorem m_1631 : Cond.methodLink RX0 81 yX0_gatherSets ∈ W0 := w0_in (List.mem_append_right _ (List.mem_of_getElem? (i := 1631) (by decide +kernel))) rfl
theorem m_1633 : Cond.instanceMethod yX0_gatherSets ∈ W0 := w0_in (List.mem_append_right _ (List.mem_of_getElem? (i := 1633) (by decide +kernel))) rfl
theorem m_1634 : Cond.code yX0_gatherSets cX0_gatherSets 2 (some .boolean) ∈ W0 := w0_in (List.mem_append_right _ (List.mem_of_getElem? (i := 1634) (by decide +kernel))) rfl
theorem m_1658 : Cond.methodLink RX0 89 yX0_makeRoom ∈ W0 := w0_in (List.mem_append_right _ (List.mem_of_getElem? (i := 1658) (by decide +kernel))) rfl
theorem m_1660 : Cond.instanceMethod yX0_makeRoom ∈ W0 := w0_in (List.mem_append_right _ (List.mem_of_getElem? (i := 1660) (by decide +kernel))) rfl
theorem m_1661 : Cond.code yX0_makeRoom cX0_makeRoom 3 none ∈ W0 := w0_in (List.mem_append_right _ (List.mem_of_getElem? (i := 1661) (by decide +kernel))) rfl
theorem m_1665 : Cond.methodLink RX0 99 yX0_markAll ∈ W0 := w0_in (List.mem_append_right _ (List.mem_of_getElem? (i := 1665) (by decide +kernel))) rfl
theorem m_1667 : Cond.instanceMethod yX0_markAll ∈ W0 := w0_in (List.mem_append_right _ (List.mem_of_getElem? (i := 1667) (by decide +kernel))) rfl
theorem m_1668 : Cond.code yX0_markAll cX0_markAll 7 none ∈ W0 := w0_in (List.mem_append_right _ (List.mem_of_getElem? (i := 1668) (by decide +kernel))) rfl
theorem m_1693 : Cond.methodLink RX0 106 yX0_countAll ∈ W0 := w0_in (List.mem_append_right _ (List.mem_of_getElem? (i := 1693) (by decide +kernel))) rfl
theorem m_1695 : Cond.instanceMethod yX0_countAll ∈ W0 := w0_in (List.mem_append_right _ (List.mem_of_getElem? (i := 1695) (by decide +kernel))) rfl
theorem m_1696 : Cond.code yX0_countAll cX0_countAll 7 none ∈ W0 := w0_in (List.mem_append_right _ (List.mem_of_getElem? (i := 1696) (by decide +kernel))) rfl
theorem m_1746 : Cond.methodLink RX0 109 yX0_queueEnds ∈ W0 := w0_in (List.mem_append_right _ (List.mem_of_getElem? (i := 1746) (by decide +kernel))) rfl
theorem m_1748 : Cond.instanceMethod yX0_queueEnds ∈ W0 := w0_in (List.mem_append_right _ (List.mem_of_getElem? (i := 1748) (by decide +kernel))) rfl
theorem m_1749 : Cond.code yX0_queueEnds cX0_queueEnds 4 none ∈ W0 := w0_in (List.mem_append_right _ (List.mem_of_getElem? (i := 1749) (by decide +kernel))) rfl
theorem m_1754 : Cond.methodLink RX0 112 yX0_setOf ∈ W0 := w0_in (List.mem_append_right _ (List.mem_of_getElem? (i := 1754) (by decide +kernel))) rfl
theorem m_1756 : Cond.instanceMethod yX0_setOf ∈ W0 := w0_in (List.mem_append_right _ (List.mem_of_getElem? (i := 1756) (by decide +kernel))) rfl
theorem m_1757 : Cond.code yX0_setOf cX0_setOf 5 (some .int) ∈ W0 := w0_in (List.mem_append_right _ (List.mem_of_getElem? (i := 1757) (by decide +kernel))) rfl
section
variable {p : Program} {l : Launch} {e : Env} {R : Room} {s : State} {m : MethodId} {args : Array Value} {below : List Frame} {meth : Method} {c : Code} {H : Heap} {locs : List Loc} {cells slots : Nat} {Q : State → Prop}
variable {cc : ByteArray} {pc : Nat} {ls : Array Slot} {rest : List Value} {X : Ec} {h h1 : Hp} {nL : Nat} {rt : Option FieldType} {mn : String}
theorem pf_X0_77 {a : Nat} {v : Int32} (C : Cx X p s m args meth c RX0 cc nL rt mn) (hW : Wx X h H) (hZ : va_S (aA (eB X)) s.heap H locs) (ha : hK h a = 0) (hn : narrow .boolean (.int v) = .int v) (eh : h1 = wI h a 10 v) (hdg : decode cc pc = .ok (.putfield 77, 3)) (kk : ∀ (H1 : Heap) (locs1 : List Loc), Wx X h1 H1 → Km h h1 → va_S (aA (eB X)) s.heap H1 locs1 → W p l e R s m args below meth c H1 locs1 cells slots Q (F0 m (pc + 3) ls rest)) : W p l e R s m args below meth c H locs cells slots Q (F0 m pc ls (.int v :: .ref a :: rest)) :=
  y_puti (ty := .boolean) C hW hZ ha i_X0 tyX0 tyX0_ok nmX0 (by decide) rfl rfl (by decide) m_467 rfl (by decide +kernel) rfl hn (fitZ hn) eh hdg kk
theorem pf_X0_103 {a : Nat} {v : Int32} (C : Cx X p s m args meth c RX0 cc nL rt mn) (hW : Wx X h H) (hZ : va_S (aA (eB X)) s.heap H locs) (ha : hK h a = 0) (eh : h1 = wI h a 17 v) (hdg : decode cc pc = .ok (.putfield 103, 3)) (kk : ∀ (H1 : Heap) (locs1 : List Loc), Wx X h1 H1 → Km h h1 → va_S (aA (eB X)) s.heap H1 locs1 → W p l e R s m args below meth c H1 locs1 cells slots Q (F0 m (pc + 3) ls rest)) : W p l e R s m args below meth c H locs cells slots Q (F0 m pc ls (.int v :: .ref a :: rest)) :=
  y_puti (ty := .int) C hW hZ ha i_X0 tyX0 tyX0_ok nmX0 (by decide) rfl rfl (by decide) m_476 rfl (by decide +kernel) rfl rfl rfl eh hdg kk
theorem pf_X0_93 {a : Nat} {v : Int32} (C : Cx X p s m args meth c RX0 cc nL rt mn) (hW : Wx X h H) (hZ : va_S (aA (eB X)) s.heap H locs) (ha : hK h a = 0) (eh : h1 = wI h a 15 v) (hdg : decode cc pc = .ok (.putfield 93, 3)) (kk : ∀ (H1 : Heap) (locs1 : List Loc), Wx X h1 H1 → Km h h1 → va_S (aA (eB X)) s.heap H1 locs1 → W p l e R s m args below meth c H1 locs1 cells slots Q (F0 m (pc + 3) ls rest)) : W p l e R s m args below meth c H locs cells slots Q (F0 m pc ls (.int v :: .ref a :: rest)) :=
  y_puti (ty := .int) C hW hZ ha i_X0 tyX0 tyX0_ok nmX0 (by decide) rfl rfl (by decide) m_474 rfl (by decide +kernel) rfl rfl rfl eh hdg kk
end
theorem cw_X0_112 : cwd RX0 112 yX0_setOf cX0_setOf 5 (some .int) false 1 := ⟨m_1757, m_1754, m_13, ⟨m_1756, ms_112⟩, by decide, by decide, by decide +kernel⟩
theorem cw_X0_109 : cwd RX0 109 yX0_queueEnds cX0_queueEnds 4 none false 0 := ⟨m_1749, m_1746, m_13, ⟨m_1748, ms_110⟩, by decide, by decide, by decide +kernel⟩
theorem cw_X0_106 : cwd RX0 106 yX0_countAll cX0_countAll 7 none false 0 := ⟨m_1696, m_1693, m_13, ⟨m_1695, ms_98⟩, by decide, by decide, by decide +kernel⟩
theorem cw_X0_99 : cwd RX0 99 yX0_markAll cX0_markAll 7 none false 0 := ⟨m_1668, m_1665, m_13, ⟨m_1667, ms_94⟩, by decide, by decide, by decide +kernel⟩
theorem cw_X0_89 : cwd RX0 89 yX0_makeRoom cX0_makeRoom 3 none false 1 := ⟨m_1661, m_1658, m_13, ⟨m_1660, ms_93⟩, by decide, by decide, by decide +kernel⟩
theorem cw_X0_81 : cwd RX0 81 yX0_gatherSets cX0_gatherSets 2 (some .boolean) false 0 := ⟨m_1634, m_1631, m_13, ⟨m_1633, ms_89⟩, by decide, by decide, by decide +kernel⟩
theorem dX0_run_0 : decode cX0_run 0 = .ok (.aload_n 0, 1) := by decide +kernel
theorem dX0_run_1 : decode cX0_run 1 = .ok (.iconst 0, 1) := by decide +kernel
theorem dX0_run_2 : decode cX0_run 2 = .ok (.putfield 77, 3) := by decide +kernel
theorem dX0_run_5 : decode cX0_run 5 = .ok (.aload_n 0, 1) := by decide +kernel
theorem dX0_run_6 : decode cX0_run 6 = .ok (.invokevirtual 81, 3) := by decide +kernel
theorem dX0_run_9 : decode cX0_run 9 = .ok (.ifCond .ne 5, 3) := by decide +kernel
theorem dX0_run_12 : decode cX0_run 12 = .ok (.iconst 0, 1) := by decide +kernel
theorem dX0_run_13 : decode cX0_run 13 = .ok (.ireturn, 1) := by decide +kernel
theorem dX0_run_14 : decode cX0_run 14 = .ok (.aload_n 0, 1) := by decide +kernel
theorem dX0_run_15 : decode cX0_run 15 = .ok (.aload_n 0, 1) := by decide +kernel
theorem dX0_run_16 : decode cX0_run 16 = .ok (.getfield 85, 3) := by decide +kernel
theorem dX0_run_19 : decode cX0_run 19 = .ok (.l2i, 1) := by decide +kernel
theorem dX0_run_20 : decode cX0_run 20 = .ok (.invokevirtual 89, 3) := by decide +kernel
theorem dX0_run_23 : decode cX0_run 23 = .ok (.aload_n 0, 1) := by decide +kernel
theorem dX0_run_24 : decode cX0_run 24 = .ok (.aload_n 0, 1) := by decide +kernel
theorem dX0_run_25 : decode cX0_run 25 = .ok (.getfield 74, 3) := by decide +kernel
theorem dX0_run_28 : decode cX0_run 28 = .ok (.putfield 93, 3) := by decide +kernel
theorem dX0_run_31 : decode cX0_run 31 = .ok (.aload_n 0, 1) := by decide +kernel
theorem dX0_run_32 : decode cX0_run 32 = .ok (.iconst 0, 1) := by decide +kernel
theorem dX0_run_33 : decode cX0_run 33 = .ok (.putfield 96, 3) := by decide +kernel
theorem dX0_run_36 : decode cX0_run 36 = .ok (.aload_n 0, 1) := by decide +kernel
theorem dX0_run_37 : decode cX0_run 37 = .ok (.invokevirtual 99, 3) := by decide +kernel
theorem dX0_run_40 : decode cX0_run 40 = .ok (.aload_n 0, 1) := by decide +kernel
theorem dX0_run_41 : decode cX0_run 41 = .ok (.ldc 102, 2) := by decide +kernel
theorem dX0_run_43 : decode cX0_run 43 = .ok (.putfield 103, 3) := by decide +kernel
theorem dX0_run_46 : decode cX0_run 46 = .ok (.aload_n 0, 1) := by decide +kernel
theorem dX0_run_47 : decode cX0_run 47 = .ok (.invokevirtual 106, 3) := by decide +kernel
theorem dX0_run_50 : decode cX0_run 50 = .ok (.aload_n 0, 1) := by decide +kernel
theorem dX0_run_51 : decode cX0_run 51 = .ok (.invokevirtual 109, 3) := by decide +kernel
theorem dX0_run_54 : decode cX0_run 54 = .ok (.iconst 0, 1) := by decide +kernel
theorem dX0_run_55 : decode cX0_run 55 = .ok (.istore_n 1, 1) := by decide +kernel
theorem dX0_run_56 : decode cX0_run 56 = .ok (.iload_n 1, 1) := by decide +kernel
theorem dX0_run_57 : decode cX0_run 57 = .ok (.aload_n 0, 1) := by decide +kernel
theorem dX0_run_58 : decode cX0_run 58 = .ok (.getfield 96, 3) := by decide +kernel
theorem dX0_run_61 : decode cX0_run 61 = .ok (.if_icmp .ge 69, 3) := by decide +kernel
theorem dX0_run_64 : decode cX0_run 64 = .ok (.aload_n 0, 1) := by decide +kernel
theorem dX0_run_65 : decode cX0_run 65 = .ok (.getfield 37, 3) := by decide +kernel
theorem dX0_run_68 : decode cX0_run 68 = .ok (.iload_n 1, 1) := by decide +kernel
theorem dX0_run_69 : decode cX0_run 69 = .ok (.iaload, 1) := by decide +kernel
theorem dX0_run_70 : decode cX0_run 70 = .ok (.istore_n 2, 1) := by decide +kernel
theorem dX0_run_71 : decode cX0_run 71 = .ok (.aload_n 0, 1) := by decide +kernel
theorem dX0_run_72 : decode cX0_run 72 = .ok (.iload_n 2, 1) := by decide +kernel
theorem dX0_run_73 : decode cX0_run 73 = .ok (.invokevirtual 112, 3) := by decide +kernel
theorem dX0_run_76 : decode cX0_run 76 = .ok (.istore_n 3, 1) := by decide +kernel
theorem dX0_run_77 : decode cX0_run 77 = .ok (.aload_n 0, 1) := by decide +kernel
theorem dX0_run_78 : decode cX0_run 78 = .ok (.aload_n 0, 1) := by decide +kernel
theorem dX0_run_79 : decode cX0_run 79 = .ok (.getfield 31, 3) := by decide +kernel
theorem dX0_run_82 : decode cX0_run 82 = .ok (.iload_n 2, 1) := by decide +kernel
theorem dX0_run_83 : decode cX0_run 83 = .ok (.iaload, 1) := by decide +kernel
theorem dX0_run_84 : decode cX0_run 84 = .ok (.putfield 103, 3) := by decide +kernel
theorem dX0_run_87 : decode cX0_run 87 = .ok (.aload_n 0, 1) := by decide +kernel
theorem dX0_run_88 : decode cX0_run 88 = .ok (.aload_n 0, 1) := by decide +kernel
theorem dX0_run_89 : decode cX0_run 89 = .ok (.getfield 18, 3) := by decide +kernel
theorem dX0_run_92 : decode cX0_run 92 = .ok (.iload_n 3, 1) := by decide +kernel
theorem dX0_run_93 : decode cX0_run 93 = .ok (.iaload, 1) := by decide +kernel
theorem dX0_run_94 : decode cX0_run 94 = .ok (.iload_n 2, 1) := by decide +kernel
theorem dX0_run_95 : decode cX0_run 95 = .ok (.aload_n 0, 1) := by decide +kernel
theorem dX0_run_96 : decode cX0_run 96 = .ok (.getfield 22, 3) := by decide +kernel
theorem dX0_run_99 : decode cX0_run 99 = .ok (.iload_n 3, 1) := by decide +kernel
theorem dX0_run_100 : decode cX0_run 100 = .ok (.iaload, 1) := by decide +kernel
theorem dX0_run_101 : decode cX0_run 101 = .ok (.isub, 1) := by decide +kernel
theorem dX0_run_102 : decode cX0_run 102 = .ok (.iconst 1, 1) := by decide +kernel
theorem dX0_run_103 : decode cX0_run 103 = .ok (.ishr, 1) := by decide +kernel
theorem dX0_run_104 : decode cX0_run 104 = .ok (.invokevirtual 115, 3) := by decide +kernel
theorem dX0_run_107 : decode cX0_run 107 = .ok (.ifCond .eq 17, 3) := by decide +kernel
theorem dX0_run_110 : decode cX0_run 110 = .ok (.aload_n 0, 1) := by decide +kernel
theorem dX0_run_111 : decode cX0_run 111 = .ok (.iload_n 2, 1) := by decide +kernel
theorem dX0_run_112 : decode cX0_run 112 = .ok (.aload_n 0, 1) := by decide +kernel
theorem dX0_run_113 : decode cX0_run 113 = .ok (.getfield 22, 3) := by decide +kernel
theorem dX0_run_116 : decode cX0_run 116 = .ok (.iload_n 3, 1) := by decide +kernel
theorem dX0_run_117 : decode cX0_run 117 = .ok (.iaload, 1) := by decide +kernel
theorem dX0_run_118 : decode cX0_run 118 = .ok (.isub, 1) := by decide +kernel
theorem dX0_run_119 : decode cX0_run 119 = .ok (.iconst 1, 1) := by decide +kernel
theorem dX0_run_120 : decode cX0_run 120 = .ok (.iand, 1) := by decide +kernel
theorem dX0_run_121 : decode cX0_run 121 = .ok (.invokevirtual 119, 3) := by decide +kernel
theorem dX0_run_124 : decode cX0_run 124 = .ok (.iinc 1 1, 3) := by decide +kernel
theorem dX0_run_127 : decode cX0_run 127 = .ok (.goto (-71), 3) := by decide +kernel
theorem dX0_run_130 : decode cX0_run 130 = .ok (.iconst 0, 1) := by decide +kernel
theorem dX0_run_131 : decode cX0_run 131 = .ok (.istore_n 1, 1) := by decide +kernel
theorem dX0_run_132 : decode cX0_run 132 = .ok (.iload_n 1, 1) := by decide +kernel
theorem dX0_run_133 : decode cX0_run 133 = .ok (.aload_n 0, 1) := by decide +kernel
theorem dX0_run_134 : decode cX0_run 134 = .ok (.getfield 85, 3) := by decide +kernel
theorem dX0_run_137 : decode cX0_run 137 = .ok (.l2i, 1) := by decide +kernel
theorem dX0_run_138 : decode cX0_run 138 = .ok (.if_icmp .ge 36, 3) := by decide +kernel
theorem dX0_run_141 : decode cX0_run 141 = .ok (.aload_n 0, 1) := by decide +kernel
theorem dX0_run_142 : decode cX0_run 142 = .ok (.getfield 31, 3) := by decide +kernel
theorem dX0_run_145 : decode cX0_run 145 = .ok (.iload_n 1, 1) := by decide +kernel
theorem dX0_run_146 : decode cX0_run 146 = .ok (.aload_n 0, 1) := by decide +kernel
theorem dX0_run_147 : decode cX0_run 147 = .ok (.getfield 31, 3) := by decide +kernel
theorem dX0_run_150 : decode cX0_run 150 = .ok (.iload_n 1, 1) := by decide +kernel
theorem dX0_run_151 : decode cX0_run 151 = .ok (.iaload, 1) := by decide +kernel
theorem dX0_run_152 : decode cX0_run 152 = .ok (.ldc 102, 2) := by decide +kernel
theorem dX0_run_154 : decode cX0_run 154 = .ok (.if_icmp .ne 7, 3) := by decide +kernel
theorem dX0_run_157 : decode cX0_run 157 = .ok (.iconst 0, 1) := by decide +kernel
theorem dX0_run_158 : decode cX0_run 158 = .ok (.goto 9, 3) := by decide +kernel
theorem dX0_run_161 : decode cX0_run 161 = .ok (.aload_n 0, 1) := by decide +kernel
theorem dX0_run_162 : decode cX0_run 162 = .ok (.getfield 31, 3) := by decide +kernel
theorem dX0_run_165 : decode cX0_run 165 = .ok (.iload_n 1, 1) := by decide +kernel
theorem dX0_run_166 : decode cX0_run 166 = .ok (.iaload, 1) := by decide +kernel
theorem dX0_run_167 : decode cX0_run 167 = .ok (.iastore, 1) := by decide +kernel
theorem dX0_run_168 : decode cX0_run 168 = .ok (.iinc 1 1, 3) := by decide +kernel
theorem dX0_run_171 : decode cX0_run 171 = .ok (.goto (-39), 3) := by decide +kernel
theorem dX0_run_174 : decode cX0_run 174 = .ok (.aload_n 0, 1) := by decide +kernel
theorem dX0_run_175 : decode cX0_run 175 = .ok (.iconst 1, 1) := by decide +kernel
theorem dX0_run_176 : decode cX0_run 176 = .ok (.putfield 77, 3) := by decide +kernel
theorem dX0_run_179 : decode cX0_run 179 = .ok (.iconst 1, 1) := by decide +kernel
theorem dX0_run_180 : decode cX0_run 180 = .ok (.ireturn, 1) := by decide +kernel
def sX0_run_167 (F : Nat) (k_132 : Hp → Nat → Int32 → Option (Int32 × Hp)) (h : Hp) (x0 : Nat) (x1 : Int32) (t0 : Int32) (t1 : Int32) (t2 : Nat) : Option (Int32 × Hp) := gd (inB t1 (hN h t2)) <| nm (wI h t2 t1.toNatClampNeg t0) fun h_2 => nm (x1 + (1 : Int32)) fun v_3 => k_132 h_2 x0 v_3
def sX0_run_132 (F : Nat) : Nat → Hp → Nat → Int32 → Option (Int32 × Hp)
  | 0, _, _, _ => none
  | f + 1, h, x0, x1 => br (((hJ h x0 18).toInt32) ≤ x1) (nm (wI h x0 10 (1 : Int32)) fun h_2 => some ((1 : Int32), h_2)) (cl (hR h x0 11) fun r_3 => cl (hR h x0 11) fun r_4 => gd (inB x1 (hN h r_4)) <| br ((hI h r_4 x1.toNatClampNeg) = (3000000 : Int32)) (sX0_run_167 F (sX0_run_132 F f) h x0 x1 (0 : Int32) x1 r_3) (cl (hR h x0 11) fun r_7 => gd (inB x1 (hN h r_7)) <| sX0_run_167 F (sX0_run_132 F f) h x0 x1 (hI h r_7 x1.toNatClampNeg) x1 r_3))
def sX0_run_124 (F : Nat) (k_56 : Hp → Nat → Int32 → Option (Int32 × Hp)) (h : Hp) (x0 : Nat) (x1 : Int32) : Option (Int32 × Hp) := nm (x1 + (1 : Int32)) fun v_1 => k_56 h x0 v_1
def sX0_run_107 (F : Nat) (k_56 : Hp → Nat → Int32 → Option (Int32 × Hp)) (h : Hp) (x0 : Nat) (x1 : Int32) (x2 : Int32) (x3 : Int32) (t0 : Int32) : Option (Int32 × Hp) := br (t0 = 0) (sX0_run_124 F k_56 h x0 x1) (cl (hR h x0 5) fun r_2 => gd (inB x3 (hN h r_2)) <| cl (sX0_goBack F h x0 ((x2 - (hI h r_2 x3.toNatClampNeg)) &&& (1 : Int32))) fun o_4 => sX0_run_124 F k_56 o_4 x0 x1)
def sX0_run_76 (F : Nat) (k_56 : Hp → Nat → Int32 → Option (Int32 × Hp)) (h : Hp) (x0 : Nat) (x1 : Int32) (x2 : Int32) (t0 : Int32) : Option (Int32 × Hp) := cl (hR h x0 11) fun r_1 => gd (inB x2 (hN h r_1)) <| nm (wI h x0 17 (hI h r_1 x2.toNatClampNeg)) fun h_3 => cl (hR h_3 x0 4) fun r_4 => gd (inB t0 (hN h_3 r_4)) <| cl (hR h_3 x0 5) fun r_6 => gd (inB t0 (hN h_3 r_6)) <| cl (sX0_layOut F h_3 x0 (hI h_3 r_4 t0.toNatClampNeg) ((x2 - (hI h_3 r_6 t0.toNatClampNeg)) >>> ((1 : Int32) &&& 31))) fun o_8 => sX0_run_107 F k_56 o_8.2 x0 x1 x2 t0 o_8.1
def sX0_run_56 (F : Nat) : Nat → Hp → Nat → Int32 → Option (Int32 × Hp)
  | 0, _, _, _ => none
  | f + 1, h, x0, x1 => br ((hI h x0 16) ≤ x1) (sX0_run_132 F F h x0 (0 : Int32)) (cl (hR h x0 13) fun r_2 => gd (inB x1 (hN h r_2)) <| nm (hI h r_2 x1.toNatClampNeg) fun v_4 => cl (sX0_setOf F h x0 v_4) fun o_5 => sX0_run_76 F (sX0_run_56 F f) o_5.2 x0 x1 v_4 o_5.1)
def sX0_run_54 (F : Nat) (h : Hp) (x0 : Nat) : Option (Int32 × Hp) := sX0_run_56 F F h x0 (0 : Int32)
def sX0_run_50 (F : Nat) (h : Hp) (x0 : Nat) : Option (Int32 × Hp) := cl (sX0_queueEnds F h x0) fun o_1 => sX0_run_54 F o_1 x0
def sX0_run_40 (F : Nat) (h : Hp) (x0 : Nat) : Option (Int32 × Hp) := nm (wI h x0 17 (3000000 : Int32)) fun h_1 => cl (sX0_countAll F h_1 x0) fun o_2 => sX0_run_50 F o_2 x0
def sX0_run_23 (F : Nat) (h : Hp) (x0 : Nat) : Option (Int32 × Hp) := nm (wI h x0 15 (hI h x0 14)) fun h_1 => nm (wI h_1 x0 16 (0 : Int32)) fun h_2 => cl (sX0_markAll F h_2 x0) fun o_3 => sX0_run_40 F o_3 x0
def sX0_run_9 (F : Nat) (h : Hp) (x0 : Nat) (t0 : Int32) : Option (Int32 × Hp) := br (t0 = 0) (some ((0 : Int32), h)) (cl (sX0_makeRoom h x0 ((hJ h x0 18).toInt32)) fun o_2 => sX0_run_23 F o_2 x0)
def sX0_run (F : Nat) (h : Hp) (x0 : Nat) : Option (Int32 × Hp) := nm (wI h x0 10 (0 : Int32)) fun h_1 => cl (sX0_gatherSets F h_1 x0) fun o_2 => sX0_run_9 F o_2.2 x0 o_2.1
set_option maxRecDepth 20000 in
theorem moX0_run_167 {o : Int32 × Hp} {k_132 : Hp → Nat → Int32 → Option (Int32 × Hp)} {F : Nat} (mk_132 : ∀ (h : Hp) (x0 : Nat) (x1 : Int32), k_132 h x0 x1 = some o → Le h o.2) {h : Hp} {x0 : Nat} {x1 : Int32} {t0 : Int32} {t1 : Int32} {t2 : Nat} (hE : sX0_run_167 F k_132 h x0 x1 t0 t1 t2 = some o) : Le h o.2 := by
  obtain ⟨g_1, hE⟩ := gd_e hE
  obtain ⟨h_2, eh_2, hE⟩ := nm_e2 hE
  refine (le_I eh_2).tr ?_
  obtain ⟨v_3, ev_3, hE⟩ := nm_e2 hE
  exact mk_132 _ _ _ hE
set_option maxRecDepth 20000 in
theorem moX0_run_132 {o : Int32 × Hp} {F : Nat} : ∀ (f : Nat) {h : Hp} {x0 : Nat} {x1 : Int32}, sX0_run_132 F f h x0 x1 = some o → Le h o.2 := by
  intro f
  induction f with
  | zero =>
    intro h x0 x1 hE
    rw [sX0_run_132] at hE
    cases hE
  | succ f ih =>
    intro h x0 x1 hE
    rw [sX0_run_132] at hE
    have mk_132 : ∀ (h : Hp) (x0 : Nat) (x1 : Int32), sX0_run_132 F f h x0 x1 = some o → Le h o.2 := fun h x0 x1 hE => ih hE
    rcases br_e hE with ⟨_, hE⟩ | ⟨_, hE⟩
    · obtain ⟨h_2, eh_2, hE⟩ := nm_e2 hE
      refine (le_I eh_2).tr ?_
      cases hE
      exact Le.rf _
    · obtain ⟨r_3, er_3, hE⟩ := cl_e hE
      obtain ⟨r_4, er_4, hE⟩ := cl_e hE
      obtain ⟨g_5, hE⟩ := gd_e hE
      rcases br_e hE with ⟨_, hE⟩ | ⟨_, hE⟩
      · exact moX0_run_167 mk_132 hE
      · obtain ⟨r_7, er_7, hE⟩ := cl_e hE
        obtain ⟨g_8, hE⟩ := gd_e hE
        exact moX0_run_167 mk_132 hE
set_option maxRecDepth 20000 in
theorem moX0_run_124 {o : Int32 × Hp} {k_56 : Hp → Nat → Int32 → Option (Int32 × Hp)} {F : Nat} (mk_56 : ∀ (h : Hp) (x0 : Nat) (x1 : Int32), k_56 h x0 x1 = some o → Le h o.2) {h : Hp} {x0 : Nat} {x1 : Int32} (hE : sX0_run_124 F k_56 h x0 x1 = some o) : Le h o.2 := by
  obtain ⟨v_1, ev_1, hE⟩ := nm_e2 hE
  exact mk_56 _ _ _ hE
set_option maxRecDepth 20000 in
theorem moX0_run_107 {o : Int32 × Hp} {k_56 : Hp → Nat → Int32 → Option (Int32 × Hp)} {F : Nat} (mk_56 : ∀ (h : Hp) (x0 : Nat) (x1 : Int32), k_56 h x0 x1 = some o → Le h o.2) {h : Hp} {x0 : Nat} {x1 : Int32} {x2 : Int32} {x3 : Int32} {t0 : Int32} (hE : sX0_run_107 F k_56 h x0 x1 x2 x3 t0 = some o) : Le h o.2 := by
  rcases br_e hE with ⟨_, hE⟩ | ⟨_, hE⟩
  · exact moX0_run_124 mk_56 hE
  · obtain ⟨r_2, er_2, hE⟩ := cl_e hE
    obtain ⟨g_3, hE⟩ := gd_e hE
    obtain ⟨o_4, eo_4, hE⟩ := cl_e hE
    refine (moX0_goBack eo_4).tr ?_
    exact moX0_run_124 mk_56 hE
set_option maxRecDepth 20000 in
theorem moX0_run_76 {o : Int32 × Hp} {k_56 : Hp → Nat → Int32 → Option (Int32 × Hp)} {F : Nat} (mk_56 : ∀ (h : Hp) (x0 : Nat) (x1 : Int32), k_56 h x0 x1 = some o → Le h o.2) {h : Hp} {x0 : Nat} {x1 : Int32} {x2 : Int32} {t0 : Int32} (hE : sX0_run_76 F k_56 h x0 x1 x2 t0 = some o) : Le h o.2 := by
  obtain ⟨r_1, er_1, hE⟩ := cl_e hE
  obtain ⟨g_2, hE⟩ := gd_e hE
  obtain ⟨h_3, eh_3, hE⟩ := nm_e2 hE
  refine (le_I eh_3).tr ?_
  obtain ⟨r_4, er_4, hE⟩ := cl_e hE
  obtain ⟨g_5, hE⟩ := gd_e hE
  obtain ⟨r_6, er_6, hE⟩ := cl_e hE
  obtain ⟨g_7, hE⟩ := gd_e hE
  obtain ⟨o_8, eo_8, hE⟩ := cl_e hE
  refine (moX0_layOut eo_8).tr ?_
  exact moX0_run_107 mk_56 hE
set_option maxRecDepth 20000 in
theorem moX0_run_56 {o : Int32 × Hp} {F : Nat} : ∀ (f : Nat) {h : Hp} {x0 : Nat} {x1 : Int32}, sX0_run_56 F f h x0 x1 = some o → Le h o.2 := by
  intro f
  induction f with
  | zero =>
    intro h x0 x1 hE
    rw [sX0_run_56] at hE
    cases hE
  | succ f ih =>
    intro h x0 x1 hE
    rw [sX0_run_56] at hE
    have mk_56 : ∀ (h : Hp) (x0 : Nat) (x1 : Int32), sX0_run_56 F f h x0 x1 = some o → Le h o.2 := fun h x0 x1 hE => ih hE
    rcases br_e hE with ⟨_, hE⟩ | ⟨_, hE⟩
    · exact moX0_run_132 _ hE
    · obtain ⟨r_2, er_2, hE⟩ := cl_e hE
      obtain ⟨g_3, hE⟩ := gd_e hE
      obtain ⟨v_4, ev_4, hE⟩ := nm_e2 hE
      obtain ⟨o_5, eo_5, hE⟩ := cl_e hE
      refine (moX0_setOf eo_5).tr ?_
      exact moX0_run_76 mk_56 hE
set_option maxRecDepth 20000 in
theorem moX0_run_54 {o : Int32 × Hp} {F : Nat} {h : Hp} {x0 : Nat} (hE : sX0_run_54 F h x0 = some o) : Le h o.2 := by
  exact moX0_run_56 _ hE
set_option maxRecDepth 20000 in
theorem moX0_run_50 {o : Int32 × Hp} {F : Nat} {h : Hp} {x0 : Nat} (hE : sX0_run_50 F h x0 = some o) : Le h o.2 := by
  obtain ⟨o_1, eo_1, hE⟩ := cl_e hE
  refine (moX0_queueEnds eo_1).tr ?_
  exact moX0_run_54 hE
set_option maxRecDepth 20000 in
theorem moX0_run_40 {o : Int32 × Hp} {F : Nat} {h : Hp} {x0 : Nat} (hE : sX0_run_40 F h x0 = some o) : Le h o.2 := by
  obtain ⟨h_1, eh_1, hE⟩ := nm_e2 hE
  refine (le_I eh_1).tr ?_
  obtain ⟨o_2, eo_2, hE⟩ := cl_e hE
  refine (moX0_countAll eo_2).tr ?_
  exact moX0_run_50 hE
set_option maxRecDepth 20000 in
theorem moX0_run_23 {o : Int32 × Hp} {F : Nat} {h : Hp} {x0 : Nat} (hE : sX0_run_23 F h x0 = some o) : Le h o.2 := by
  obtain ⟨h_1, eh_1, hE⟩ := nm_e2 hE
  refine (le_I eh_1).tr ?_
  obtain ⟨h_2, eh_2, hE⟩ := nm_e2 hE
  refine (le_I eh_2).tr ?_
  obtain ⟨o_3, eo_3, hE⟩ := cl_e hE
  refine (moX0_markAll eo_3).tr ?_
  exact moX0_run_40 hE
set_option maxRecDepth 20000 in
theorem moX0_run_9 {o : Int32 × Hp} {F : Nat} {h : Hp} {x0 : Nat} {t0 : Int32} (hE : sX0_run_9 F h x0 t0 = some o) : Le h o.2 := by
  rcases br_e hE with ⟨_, hE⟩ | ⟨_, hE⟩
  · cases hE
    exact Le.rf _
  · obtain ⟨o_2, eo_2, hE⟩ := cl_e hE
    refine (moX0_makeRoom eo_2).tr ?_
    exact moX0_run_23 hE
set_option maxRecDepth 20000 in
theorem moX0_run {o : Int32 × Hp} {F : Nat} {h : Hp} {x0 : Nat} (hE : sX0_run F h x0 = some o) : Le h o.2 := by
  obtain ⟨h_1, eh_1, hE⟩ := nm_e2 hE
  refine (le_I eh_1).tr ?_
  obtain ⟨o_2, eo_2, hE⟩ := cl_e hE
  refine (moX0_gatherSets eo_2).tr ?_
  exact moX0_run_9 hE
set_option maxRecDepth 20000 in
theorem bX0_run_167 {p : Program} {l : Launch} {e : Env} {s : State} {m : MethodId} {args : Array Value} {below : List Frame} {meth : Method} {c : Code} {X : Ec} {h0 : Hp} {o : Int32 × Hp} {k_132 : Hp → Nat → Int32 → Option (Int32 × Hp)} {F : Nat} (C : Cx X p s m args meth c RX0 cX0_run 4 (some .boolean) "run") (hk_132 : ∀ (h : Hp) (x0 : Nat) (x1 : Int32) (H : Heap) (locs : List Loc), hK h x0 = 0 → Kl h0 h → Wx X h H → va_S (aA (eB X)) s.heap H locs → ∀ (ls : Array Slot), lv_has ls 4 [(0, .ref x0), (1, .int x1)] → k_132 h x0 x1 = some o → W p l e (rmA 6 171 h0 o.2) s m args below meth c H locs (hS h - hS h0) (hL h - hL h0) (MQ below (QIA X h0 o.1 o.2) args s (hS o.2 - hS h0) (hL o.2 - hL h0) (aA (eB X))) (F0 m 132 ls [])) (mk_132 : ∀ (h : Hp) (x0 : Nat) (x1 : Int32), k_132 h x0 x1 = some o → Le h o.2) {h : Hp} {x0 : Nat} {x1 : Int32} {t0 : Int32} {t1 : Int32} {t2 : Nat} {H : Heap} {locs : List Loc} (k_x0 : hK h x0 = 0) (k_t2 : hK h t2 = 17) (hkl : Kl h0 h) (hW : Wx X h H) (hZ : va_S (aA (eB X)) s.heap H locs) (ls : Array Slot) (hl : lv_has ls 4 [(0, .ref x0), (1, .int x1)]) (hE : sX0_run_167 F k_132 h x0 x1 t0 t1 t2 = some o) : W p l e (rmA 6 171 h0 o.2) s m args below meth c H locs (hS h - hS h0) (hL h - hL h0) (MQ below (QIA X h0 o.1 o.2) args s (hS o.2 - hS h0) (hL o.2 - hL h0) (aA (eB X))) (F0 m 167 ls [.int t0, .int t1, .ref t2]) := by
  obtain ⟨g_1, hE⟩ := gd_e hE
  obtain ⟨h_2, eh_2, hE⟩ := nm_e2 hE
  refine y_iast C hW hZ k_t2 g_1 eh_2 dX0_run_167 (fun _ _ hW km hZ => ?_)
  replace hkl := hkl.tr km.l
  refine x_wc km ?_
  replace k_x0 := km.at k_x0 (by decide)
  obtain ⟨v_3, ev_3, hE⟩ := nm_e2 hE
  refine lv_iinc (v := v_3) (lv' := [(1, .int v_3), (0, .ref x0)]) C.1 C.2.1 dX0_run_168 hl (k := 1) rfl (by rw [ev_3]; rfl) (by decide) rfl (fun ls hl => ?_)
  refine lv_goto (tgt := 132) C.1 C.2.1 dX0_run_171 (by decide) ?_
  exact hk_132 _ _ _ _ _ k_x0 hkl hW hZ _ (lv_sub hl [1, 0] rfl) hE
set_option maxRecDepth 20000 in
theorem bX0_run_132 {p : Program} {l : Launch} {e : Env} {s : State} {m : MethodId} {args : Array Value} {below : List Frame} {meth : Method} {c : Code} {X : Ec} {h0 : Hp} {o : Int32 × Hp} {F : Nat} (C : Cx X p s m args meth c RX0 cX0_run 4 (some .boolean) "run") : ∀ (f : Nat) {h : Hp} {x0 : Nat} {x1 : Int32} {H : Heap} {locs : List Loc} (k_x0 : hK h x0 = 0), Kl h0 h → Wx X h H → va_S (aA (eB X)) s.heap H locs → ∀ (ls : Array Slot), lv_has ls 4 [(0, .ref x0), (1, .int x1)] → sX0_run_132 F f h x0 x1 = some o → W p l e (rmA 6 171 h0 o.2) s m args below meth c H locs (hS h - hS h0) (hL h - hL h0) (MQ below (QIA X h0 o.1 o.2) args s (hS o.2 - hS h0) (hL o.2 - hL h0) (aA (eB X))) (F0 m 132 ls []) := by
  intro f
  induction f with
  | zero =>
    intro h x0 x1 H locs k_x0 hkl hW hZ ls hl hE
    rw [sX0_run_132] at hE
    cases hE
  | succ f ih =>
    intro h x0 x1 H locs k_x0 hkl hW hZ ls hl hE
    rw [sX0_run_132] at hE
    have mk_132 : ∀ (h : Hp) (x0 : Nat) (x1 : Int32), sX0_run_132 F f h x0 x1 = some o → Le h o.2 := fun h x0 x1 hE => moX0_run_132 _ hE
    have hk_132 : ∀ (h : Hp) (x0 : Nat) (x1 : Int32) (H : Heap) (locs : List Loc), hK h x0 = 0 → Kl h0 h → Wx X h H → va_S (aA (eB X)) s.heap H locs → ∀ (ls : Array Slot), lv_has ls 4 [(0, .ref x0), (1, .int x1)] → sX0_run_132 F f h x0 x1 = some o → W p l e (rmA 6 171 h0 o.2) s m args below meth c H locs (hS h - hS h0) (hL h - hL h0) (MQ below (QIA X h0 o.1 o.2) args s (hS o.2 - hS h0) (hL o.2 - hL h0) (aA (eB X))) (F0 m 132 ls []) := fun h x0 x1 H locs k_x0 a b c ls hl hE => ih k_x0 a b c ls hl hE
    refine lv_iload_n C.1 C.2.1 dX0_run_132 rfl (lv_at hl 1 rfl) ?_
    refine lv_aload_n C.1 C.2.1 dX0_run_133 rfl (lv_at hl 0 rfl) ?_
    refine gf_X0_85 C hW k_x0 dX0_run_134 ?_
    refine lv_l2i C.1 C.2.1 dX0_run_137 rfl ?_
    refine lv_icmp_ge (tgt := 174) C.1 C.2.1 dX0_run_138 (by decide) (fun c_1 => ?_) (fun c_1 => ?_)
    · have hE := br_p hE c_1
      refine lv_aload_n C.1 C.2.1 dX0_run_174 rfl (lv_at hl 0 rfl) ?_
      refine lv_iconst (v := (1 : Int32)) C.1 C.2.1 dX0_run_175 (by decide) ?_
      obtain ⟨h_2, eh_2, hE⟩ := nm_e2 hE
      refine pf_X0_77 C hW hZ k_x0 (by decide) eh_2 dX0_run_176 (fun _ _ hW km hZ => ?_)
      replace hkl := hkl.tr km.l
      refine x_wc km ?_
      replace k_x0 := km.at k_x0 (by decide)
      refine lv_iconst (v := (1 : Int32)) C.1 C.2.1 dX0_run_179 (by decide) ?_
      exact x_iretA C rfl (by decide) hW hZ hkl hE dX0_run_180
    · have hE := br_n hE c_1
      refine lv_aload_n C.1 C.2.1 dX0_run_141 rfl (lv_at hl 0 rfl) ?_
      obtain ⟨r_3, er_3, hE⟩ := cl_e hE
      refine gf_X0_31 C hW k_x0 er_3 dX0_run_142 (fun k_r_3 => ?_)
      refine lv_iload_n C.1 C.2.1 dX0_run_145 rfl (lv_at hl 1 rfl) ?_
      refine lv_aload_n C.1 C.2.1 dX0_run_146 rfl (lv_at hl 0 rfl) ?_
      obtain ⟨r_4, er_4, hE⟩ := cl_e hE
      refine gf_X0_31 C hW k_x0 er_4 dX0_run_147 (fun k_r_4 => ?_)
      refine lv_iload_n C.1 C.2.1 dX0_run_150 rfl (lv_at hl 1 rfl) ?_
      obtain ⟨g_5, hE⟩ := gd_e hE
      refine y_iald C hW k_r_4 g_5 dX0_run_151 ?_
      refine lv_ldc (v := (3000000 : Int32)) C.1 C.2.1 C.2.2.2.1 (C.2.2.2.2.1 _ m_1685) dX0_run_152 ?_
      refine lv_icmp_ne (tgt := 161) C.1 C.2.1 dX0_run_154 (by decide) (fun c_6 => ?_) (fun c_6 => ?_)
      · have hE := br_n hE c_6
        refine lv_aload_n C.1 C.2.1 dX0_run_161 rfl (lv_at hl 0 rfl) ?_
        obtain ⟨r_7, er_7, hE⟩ := cl_e hE
        refine gf_X0_31 C hW k_x0 er_7 dX0_run_162 (fun k_r_7 => ?_)
        refine lv_iload_n C.1 C.2.1 dX0_run_165 rfl (lv_at hl 1 rfl) ?_
        obtain ⟨g_8, hE⟩ := gd_e hE
        refine y_iald C hW k_r_7 g_8 dX0_run_166 ?_
        exact bX0_run_167 C hk_132 mk_132 k_x0 k_r_3 hkl hW hZ _ (lv_sub hl [0, 1] rfl) hE
      · have hE := br_p hE c_6
        refine lv_iconst (v := (0 : Int32)) C.1 C.2.1 dX0_run_157 (by decide) ?_
        refine lv_goto (tgt := 167) C.1 C.2.1 dX0_run_158 (by decide) ?_
        exact bX0_run_167 C hk_132 mk_132 k_x0 k_r_3 hkl hW hZ _ (lv_sub hl [0, 1] rfl) hE
set_option maxRecDepth 20000 in
theorem bX0_run_124 {p : Program} {l : Launch} {e : Env} {s : State} {m : MethodId} {args : Array Value} {below : List Frame} {meth : Method} {c : Code} {X : Ec} {h0 : Hp} {o : Int32 × Hp} {k_56 : Hp → Nat → Int32 → Option (Int32 × Hp)} {F : Nat} (C : Cx X p s m args meth c RX0 cX0_run 4 (some .boolean) "run") (hk_56 : ∀ (h : Hp) (x0 : Nat) (x1 : Int32) (H : Heap) (locs : List Loc), hK h x0 = 0 → Kl h0 h → Wx X h H → va_S (aA (eB X)) s.heap H locs → ∀ (ls : Array Slot), lv_has ls 4 [(0, .ref x0), (1, .int x1)] → k_56 h x0 x1 = some o → W p l e (rmA 6 171 h0 o.2) s m args below meth c H locs (hS h - hS h0) (hL h - hL h0) (MQ below (QIA X h0 o.1 o.2) args s (hS o.2 - hS h0) (hL o.2 - hL h0) (aA (eB X))) (F0 m 56 ls [])) (mk_56 : ∀ (h : Hp) (x0 : Nat) (x1 : Int32), k_56 h x0 x1 = some o → Le h o.2) {h : Hp} {x0 : Nat} {x1 : Int32} {H : Heap} {locs : List Loc} (k_x0 : hK h x0 = 0) (hkl : Kl h0 h) (hW : Wx X h H) (hZ : va_S (aA (eB X)) s.heap H locs) (ls : Array Slot) (hl : lv_has ls 4 [(0, .ref x0), (1, .int x1)]) (hE : sX0_run_124 F k_56 h x0 x1 = some o) : W p l e (rmA 6 171 h0 o.2) s m args below meth c H locs (hS h - hS h0) (hL h - hL h0) (MQ below (QIA X h0 o.1 o.2) args s (hS o.2 - hS h0) (hL o.2 - hL h0) (aA (eB X))) (F0 m 124 ls []) := by
  obtain ⟨v_1, ev_1, hE⟩ := nm_e2 hE
  refine lv_iinc (v := v_1) (lv' := [(1, .int v_1), (0, .ref x0)]) C.1 C.2.1 dX0_run_124 hl (k := 1) rfl (by rw [ev_1]; rfl) (by decide) rfl (fun ls hl => ?_)
  refine lv_goto (tgt := 56) C.1 C.2.1 dX0_run_127 (by decide) ?_
  exact hk_56 _ _ _ _ _ k_x0 hkl hW hZ _ (lv_sub hl [1, 0] rfl) hE
set_option maxRecDepth 20000 in
theorem bX0_run_107 {p : Program} {l : Launch} {e : Env} {s : State} {m : MethodId} {args : Array Value} {below : List Frame} {meth : Method} {c : Code} {X : Ec} {h0 : Hp} {o : Int32 × Hp} {k_56 : Hp → Nat → Int32 → Option (Int32 × Hp)} {F : Nat} (C : Cx X p s m args meth c RX0 cX0_run 4 (some .boolean) "run") (hk_56 : ∀ (h : Hp) (x0 : Nat) (x1 : Int32) (H : Heap) (locs : List Loc), hK h x0 = 0 → Kl h0 h → Wx X h H → va_S (aA (eB X)) s.heap H locs → ∀ (ls : Array Slot), lv_has ls 4 [(0, .ref x0), (1, .int x1)] → k_56 h x0 x1 = some o → W p l e (rmA 6 171 h0 o.2) s m args below meth c H locs (hS h - hS h0) (hL h - hL h0) (MQ below (QIA X h0 o.1 o.2) args s (hS o.2 - hS h0) (hL o.2 - hL h0) (aA (eB X))) (F0 m 56 ls [])) (mk_56 : ∀ (h : Hp) (x0 : Nat) (x1 : Int32), k_56 h x0 x1 = some o → Le h o.2) {h : Hp} {x0 : Nat} {x1 : Int32} {x2 : Int32} {x3 : Int32} {t0 : Int32} {H : Heap} {locs : List Loc} (k_x0 : hK h x0 = 0) (hkl : Kl h0 h) (hW : Wx X h H) (hZ : va_S (aA (eB X)) s.heap H locs) (ls : Array Slot) (hl : lv_has ls 4 [(0, .ref x0), (1, .int x1), (2, .int x2), (3, .int x3)]) (hE : sX0_run_107 F k_56 h x0 x1 x2 x3 t0 = some o) : W p l e (rmA 6 171 h0 o.2) s m args below meth c H locs (hS h - hS h0) (hL h - hL h0) (MQ below (QIA X h0 o.1 o.2) args s (hS o.2 - hS h0) (hL o.2 - hL h0) (aA (eB X))) (F0 m 107 ls [.int t0]) := by
  refine lv_if_eq (tgt := 124) C.1 C.2.1 dX0_run_107 (by decide) (fun c_1 => ?_) (fun c_1 => ?_)
  · have hE := br_p hE c_1
    exact bX0_run_124 C hk_56 mk_56 k_x0 hkl hW hZ _ (lv_sub hl [0, 1] rfl) hE
  · have hE := br_n hE c_1
    refine lv_aload_n C.1 C.2.1 dX0_run_110 rfl (lv_at hl 0 rfl) ?_
    refine lv_iload_n C.1 C.2.1 dX0_run_111 rfl (lv_at hl 2 rfl) ?_
    refine lv_aload_n C.1 C.2.1 dX0_run_112 rfl (lv_at hl 0 rfl) ?_
    obtain ⟨r_2, er_2, hE⟩ := cl_e hE
    refine gf_X0_22 C hW k_x0 er_2 dX0_run_113 (fun k_r_2 => ?_)
    refine lv_iload_n C.1 C.2.1 dX0_run_116 rfl (lv_at hl 3 rfl) ?_
    obtain ⟨g_3, hE⟩ := gd_e hE
    refine y_iald C hW k_r_2 g_3 dX0_run_117 ?_
    refine lv_isub C.1 C.2.1 dX0_run_118 ?_
    refine lv_iconst (v := (1 : Int32)) C.1 C.2.1 dX0_run_119 (by decide) ?_
    refine lv_iand C.1 C.2.1 dX0_run_120 ?_
    obtain ⟨o_4, eo_4, hE⟩ := cl_e hE
    have m1 := moX0_goBack eo_4
    have m2 := moX0_run_124 mk_56 hE
    refine x_kV (o := o_4) (z_runV (As := [.int ((x2 - (hI h r_2 x3.toNatClampNeg)) &&& (1 : Int32))]) (rest := []) C (ct_X0_goBack l X F k_x0 eo_4) cw_X0_119 hW hZ k_x0 (by decide) rfl rfl rfl hl.1 (Nat.le_of_ble_eq_true rfl) rfl dX0_run_121 ⟨Nat.le_of_ble_eq_true rfl, Nat.le_of_ble_eq_true rfl⟩ (rm_ok0 hkl m1 m2)) hZ (fun _ _ hW km hZ => ?_)
    replace hkl := hkl.tr km.l
    refine x_wc km ?_
    replace k_x0 := km.at k_x0 (by decide)
    exact bX0_run_124 C hk_56 mk_56 k_x0 hkl hW hZ _ (lv_sub hl [0, 1] rfl) hE
set_option maxRecDepth 20000 in
theorem bX0_run_76 {p : Program} {l : Launch} {e : Env} {s : State} {m : MethodId} {args : Array Value} {below : List Frame} {meth : Method} {c : Code} {X : Ec} {h0 : Hp} {o : Int32 × Hp} {k_56 : Hp → Nat → Int32 → Option (Int32 × Hp)} {F : Nat} (C : Cx X p s m args meth c RX0 cX0_run 4 (some .boolean) "run") (hk_56 : ∀ (h : Hp) (x0 : Nat) (x1 : Int32) (H : Heap) (locs : List Loc), hK h x0 = 0 → Kl h0 h → Wx X h H → va_S (aA (eB X)) s.heap H locs → ∀ (ls : Array Slot), lv_has ls 4 [(0, .ref x0), (1, .int x1)] → k_56 h x0 x1 = some o → W p l e (rmA 6 171 h0 o.2) s m args below meth c H locs (hS h - hS h0) (hL h - hL h0) (MQ below (QIA X h0 o.1 o.2) args s (hS o.2 - hS h0) (hL o.2 - hL h0) (aA (eB X))) (F0 m 56 ls [])) (mk_56 : ∀ (h : Hp) (x0 : Nat) (x1 : Int32), k_56 h x0 x1 = some o → Le h o.2) {h : Hp} {x0 : Nat} {x1 : Int32} {x2 : Int32} {t0 : Int32} {H : Heap} {locs : List Loc} (k_x0 : hK h x0 = 0) (hkl : Kl h0 h) (hW : Wx X h H) (hZ : va_S (aA (eB X)) s.heap H locs) (ls : Array Slot) (hl : lv_has ls 4 [(0, .ref x0), (1, .int x1), (2, .int x2)]) (hE : sX0_run_76 F k_56 h x0 x1 x2 t0 = some o) : W p l e (rmA 6 171 h0 o.2) s m args below meth c H locs (hS h - hS h0) (hL h - hL h0) (MQ below (QIA X h0 o.1 o.2) args s (hS o.2 - hS h0) (hL o.2 - hL h0) (aA (eB X))) (F0 m 76 ls [.int t0]) := by
  refine lv_istore_n (lv' := [(3, .int t0), (0, .ref x0), (1, .int x1), (2, .int x2)]) C.1 C.2.1 dX0_run_76 rfl hl (by decide) rfl (fun ls hl => ?_)
  refine lv_aload_n C.1 C.2.1 dX0_run_77 rfl (lv_at hl 1 rfl) ?_
  refine lv_aload_n C.1 C.2.1 dX0_run_78 rfl (lv_at hl 1 rfl) ?_
  obtain ⟨r_1, er_1, hE⟩ := cl_e hE
  refine gf_X0_31 C hW k_x0 er_1 dX0_run_79 (fun k_r_1 => ?_)
  refine lv_iload_n C.1 C.2.1 dX0_run_82 rfl (lv_at hl 3 rfl) ?_
  obtain ⟨g_2, hE⟩ := gd_e hE
  refine y_iald C hW k_r_1 g_2 dX0_run_83 ?_
  obtain ⟨h_3, eh_3, hE⟩ := nm_e2 hE
  refine pf_X0_103 C hW hZ k_x0 eh_3 dX0_run_84 (fun _ _ hW km hZ => ?_)
  replace hkl := hkl.tr km.l
  refine x_wc km ?_
  replace k_x0 := km.at k_x0 (by decide)
  refine lv_aload_n C.1 C.2.1 dX0_run_87 rfl (lv_at hl 1 rfl) ?_
  refine lv_aload_n C.1 C.2.1 dX0_run_88 rfl (lv_at hl 1 rfl) ?_
  obtain ⟨r_4, er_4, hE⟩ := cl_e hE
  refine gf_X0_18 C hW k_x0 er_4 dX0_run_89 (fun k_r_4 => ?_)
  refine lv_iload_n C.1 C.2.1 dX0_run_92 rfl (lv_at hl 0 rfl) ?_
  obtain ⟨g_5, hE⟩ := gd_e hE
  refine y_iald C hW k_r_4 g_5 dX0_run_93 ?_
  refine lv_iload_n C.1 C.2.1 dX0_run_94 rfl (lv_at hl 3 rfl) ?_
  refine lv_aload_n C.1 C.2.1 dX0_run_95 rfl (lv_at hl 1 rfl) ?_
  obtain ⟨r_6, er_6, hE⟩ := cl_e hE
  refine gf_X0_22 C hW k_x0 er_6 dX0_run_96 (fun k_r_6 => ?_)
  refine lv_iload_n C.1 C.2.1 dX0_run_99 rfl (lv_at hl 0 rfl) ?_
  obtain ⟨g_7, hE⟩ := gd_e hE
  refine y_iald C hW k_r_6 g_7 dX0_run_100 ?_
  refine lv_isub C.1 C.2.1 dX0_run_101 ?_
  refine lv_iconst (v := (1 : Int32)) C.1 C.2.1 dX0_run_102 (by decide) ?_
  refine lv_ishr C.1 C.2.1 dX0_run_103 ?_
  obtain ⟨o_8, eo_8, hE⟩ := cl_e hE
  have m1 := moX0_layOut eo_8
  have m2 := moX0_run_107 mk_56 hE
  refine x_kI (o := o_8) (z_runV (As := [.int (hI h_3 r_4 t0.toNatClampNeg), .int ((x2 - (hI h_3 r_6 t0.toNatClampNeg)) >>> ((1 : Int32) &&& 31))]) (rest := []) C (ct_X0_layOut l X F k_x0 eo_8) cw_X0_115 hW hZ k_x0 (by decide) rfl rfl rfl hl.1 (Nat.le_of_ble_eq_true rfl) rfl dX0_run_104 ⟨Nat.le_of_ble_eq_true rfl, Nat.le_of_ble_eq_true rfl⟩ (rm_ok0 hkl m1 m2)) hZ (fun _ _ hW km hZ => ?_)
  replace hkl := hkl.tr km.l
  refine x_wc km ?_
  replace k_x0 := km.at k_x0 (by decide)
  exact bX0_run_107 C hk_56 mk_56 k_x0 hkl hW hZ _ (lv_sub hl [1, 2, 3, 0] rfl) hE
set_option maxRecDepth 20000 in
theorem bX0_run_56 {p : Program} {l : Launch} {e : Env} {s : State} {m : MethodId} {args : Array Value} {below : List Frame} {meth : Method} {c : Code} {X : Ec} {h0 : Hp} {o : Int32 × Hp} {F : Nat} (C : Cx X p s m args meth c RX0 cX0_run 4 (some .boolean) "run") : ∀ (f : Nat) {h : Hp} {x0 : Nat} {x1 : Int32} {H : Heap} {locs : List Loc} (k_x0 : hK h x0 = 0), Kl h0 h → Wx X h H → va_S (aA (eB X)) s.heap H locs → ∀ (ls : Array Slot), lv_has ls 4 [(0, .ref x0), (1, .int x1)] → sX0_run_56 F f h x0 x1 = some o → W p l e (rmA 6 171 h0 o.2) s m args below meth c H locs (hS h - hS h0) (hL h - hL h0) (MQ below (QIA X h0 o.1 o.2) args s (hS o.2 - hS h0) (hL o.2 - hL h0) (aA (eB X))) (F0 m 56 ls []) := by
  intro f
  induction f with
  | zero =>
    intro h x0 x1 H locs k_x0 hkl hW hZ ls hl hE
    rw [sX0_run_56] at hE
    cases hE
  | succ f ih =>
    intro h x0 x1 H locs k_x0 hkl hW hZ ls hl hE
    rw [sX0_run_56] at hE
    have mk_56 : ∀ (h : Hp) (x0 : Nat) (x1 : Int32), sX0_run_56 F f h x0 x1 = some o → Le h o.2 := fun h x0 x1 hE => moX0_run_56 _ hE
    have hk_56 : ∀ (h : Hp) (x0 : Nat) (x1 : Int32) (H : Heap) (locs : List Loc), hK h x0 = 0 → Kl h0 h → Wx X h H → va_S (aA (eB X)) s.heap H locs → ∀ (ls : Array Slot), lv_has ls 4 [(0, .ref x0), (1, .int x1)] → sX0_run_56 F f h x0 x1 = some o → W p l e (rmA 6 171 h0 o.2) s m args below meth c H locs (hS h - hS h0) (hL h - hL h0) (MQ below (QIA X h0 o.1 o.2) args s (hS o.2 - hS h0) (hL o.2 - hL h0) (aA (eB X))) (F0 m 56 ls []) := fun h x0 x1 H locs k_x0 a b c ls hl hE => ih k_x0 a b c ls hl hE
    refine lv_iload_n C.1 C.2.1 dX0_run_56 rfl (lv_at hl 1 rfl) ?_
    refine lv_aload_n C.1 C.2.1 dX0_run_57 rfl (lv_at hl 0 rfl) ?_
    refine gf_X0_96 C hW k_x0 dX0_run_58 ?_
    refine lv_icmp_ge (tgt := 130) C.1 C.2.1 dX0_run_61 (by decide) (fun c_1 => ?_) (fun c_1 => ?_)
    · have hE := br_p hE c_1
      refine lv_iconst (v := (0 : Int32)) C.1 C.2.1 dX0_run_130 (by decide) ?_
      refine lv_istore_n (lv' := [(1, .int (0 : Int32)), (0, .ref x0)]) C.1 C.2.1 dX0_run_131 rfl hl (by decide) rfl (fun ls hl => ?_)
      exact bX0_run_132 C F k_x0 hkl hW hZ _ (lv_sub hl [1, 0] rfl) hE
    · have hE := br_n hE c_1
      refine lv_aload_n C.1 C.2.1 dX0_run_64 rfl (lv_at hl 0 rfl) ?_
      obtain ⟨r_2, er_2, hE⟩ := cl_e hE
      refine gf_X0_37 C hW k_x0 er_2 dX0_run_65 (fun k_r_2 => ?_)
      refine lv_iload_n C.1 C.2.1 dX0_run_68 rfl (lv_at hl 1 rfl) ?_
      obtain ⟨g_3, hE⟩ := gd_e hE
      refine y_iald C hW k_r_2 g_3 dX0_run_69 ?_
      obtain ⟨v_4, ev_4, hE⟩ := nm_e2 hE
      refine x_nmI ev_4 ?_
      refine lv_istore_n (lv' := [(2, .int v_4), (0, .ref x0), (1, .int x1)]) C.1 C.2.1 dX0_run_70 rfl hl (by decide) rfl (fun ls hl => ?_)
      refine lv_aload_n C.1 C.2.1 dX0_run_71 rfl (lv_at hl 1 rfl) ?_
      refine lv_iload_n C.1 C.2.1 dX0_run_72 rfl (lv_at hl 0 rfl) ?_
      obtain ⟨o_5, eo_5, hE⟩ := cl_e hE
      have m1 := moX0_setOf eo_5
      have m2 := moX0_run_76 mk_56 hE
      refine x_kI (o := o_5) (z_runV (As := [.int v_4]) (rest := []) C (ct_X0_setOf l X F k_x0 eo_5) cw_X0_112 hW hZ k_x0 (by decide) rfl rfl rfl hl.1 (Nat.le_of_ble_eq_true rfl) rfl dX0_run_73 ⟨Nat.le_of_ble_eq_true rfl, Nat.le_of_ble_eq_true rfl⟩ (rm_ok0 hkl m1 m2)) hZ (fun _ _ hW km hZ => ?_)
      replace hkl := hkl.tr km.l
      refine x_wc km ?_
      replace k_x0 := km.at k_x0 (by decide)
      exact bX0_run_76 C hk_56 mk_56 k_x0 hkl hW hZ _ (lv_sub hl [1, 2, 0] rfl) hE
set_option maxRecDepth 20000 in
theorem bX0_run_54 {p : Program} {l : Launch} {e : Env} {s : State} {m : MethodId} {args : Array Value} {below : List Frame} {meth : Method} {c : Code} {X : Ec} {h0 : Hp} {o : Int32 × Hp} {F : Nat} (C : Cx X p s m args meth c RX0 cX0_run 4 (some .boolean) "run") {h : Hp} {x0 : Nat} {H : Heap} {locs : List Loc} (k_x0 : hK h x0 = 0) (hkl : Kl h0 h) (hW : Wx X h H) (hZ : va_S (aA (eB X)) s.heap H locs) (ls : Array Slot) (hl : lv_has ls 4 [(0, .ref x0)]) (hE : sX0_run_54 F h x0 = some o) : W p l e (rmA 6 171 h0 o.2) s m args below meth c H locs (hS h - hS h0) (hL h - hL h0) (MQ below (QIA X h0 o.1 o.2) args s (hS o.2 - hS h0) (hL o.2 - hL h0) (aA (eB X))) (F0 m 54 ls []) := by
  refine lv_iconst (v := (0 : Int32)) C.1 C.2.1 dX0_run_54 (by decide) ?_
  refine lv_istore_n (lv' := [(1, .int (0 : Int32)), (0, .ref x0)]) C.1 C.2.1 dX0_run_55 rfl hl (by decide) rfl (fun ls hl => ?_)
  exact bX0_run_56 C F k_x0 hkl hW hZ _ (lv_sub hl [1, 0] rfl) hE
set_option maxRecDepth 20000 in
theorem bX0_run_50 {p : Program} {l : Launch} {e : Env} {s : State} {m : MethodId} {args : Array Value} {below : List Frame} {meth : Method} {c : Code} {X : Ec} {h0 : Hp} {o : Int32 × Hp} {F : Nat} (C : Cx X p s m args meth c RX0 cX0_run 4 (some .boolean) "run") {h : Hp} {x0 : Nat} {H : Heap} {locs : List Loc} (k_x0 : hK h x0 = 0) (hkl : Kl h0 h) (hW : Wx X h H) (hZ : va_S (aA (eB X)) s.heap H locs) (ls : Array Slot) (hl : lv_has ls 4 [(0, .ref x0)]) (hE : sX0_run_50 F h x0 = some o) : W p l e (rmA 6 171 h0 o.2) s m args below meth c H locs (hS h - hS h0) (hL h - hL h0) (MQ below (QIA X h0 o.1 o.2) args s (hS o.2 - hS h0) (hL o.2 - hL h0) (aA (eB X))) (F0 m 50 ls []) := by
  refine lv_aload_n C.1 C.2.1 dX0_run_50 rfl (lv_at hl 0 rfl) ?_
  obtain ⟨o_1, eo_1, hE⟩ := cl_e hE
  have m1 := moX0_queueEnds eo_1
  have m2 := moX0_run_54 hE
  refine x_kV (o := o_1) (z_runV (As := []) (rest := []) C (ct_X0_queueEnds l X F k_x0 eo_1) cw_X0_109 hW hZ k_x0 (by decide) rfl rfl rfl hl.1 (Nat.le_of_ble_eq_true rfl) rfl dX0_run_51 ⟨Nat.le_of_ble_eq_true rfl, Nat.le_of_ble_eq_true rfl⟩ (rm_ok0 hkl m1 m2)) hZ (fun _ _ hW km hZ => ?_)
  replace hkl := hkl.tr km.l
  refine x_wc km ?_
  replace k_x0 := km.at k_x0 (by decide)
  exact bX0_run_54 C k_x0 hkl hW hZ _ (lv_sub hl [0] rfl) hE
set_option maxRecDepth 20000 in
theorem bX0_run_40 {p : Program} {l : Launch} {e : Env} {s : State} {m : MethodId} {args : Array Value} {below : List Frame} {meth : Method} {c : Code} {X : Ec} {h0 : Hp} {o : Int32 × Hp} {F : Nat} (C : Cx X p s m args meth c RX0 cX0_run 4 (some .boolean) "run") {h : Hp} {x0 : Nat} {H : Heap} {locs : List Loc} (k_x0 : hK h x0 = 0) (hkl : Kl h0 h) (hW : Wx X h H) (hZ : va_S (aA (eB X)) s.heap H locs) (ls : Array Slot) (hl : lv_has ls 4 [(0, .ref x0)]) (hE : sX0_run_40 F h x0 = some o) : W p l e (rmA 6 171 h0 o.2) s m args below meth c H locs (hS h - hS h0) (hL h - hL h0) (MQ below (QIA X h0 o.1 o.2) args s (hS o.2 - hS h0) (hL o.2 - hL h0) (aA (eB X))) (F0 m 40 ls []) := by
  refine lv_aload_n C.1 C.2.1 dX0_run_40 rfl (lv_at hl 0 rfl) ?_
  refine lv_ldc (v := (3000000 : Int32)) C.1 C.2.1 C.2.2.2.1 (C.2.2.2.2.1 _ m_1685) dX0_run_41 ?_
  obtain ⟨h_1, eh_1, hE⟩ := nm_e2 hE
  refine pf_X0_103 C hW hZ k_x0 eh_1 dX0_run_43 (fun _ _ hW km hZ => ?_)
  replace hkl := hkl.tr km.l
  refine x_wc km ?_
  replace k_x0 := km.at k_x0 (by decide)
  refine lv_aload_n C.1 C.2.1 dX0_run_46 rfl (lv_at hl 0 rfl) ?_
  obtain ⟨o_2, eo_2, hE⟩ := cl_e hE
  have m1 := moX0_countAll eo_2
  have m2 := moX0_run_50 hE
  refine x_kV (o := o_2) (z_runV (As := []) (rest := []) C (ct_X0_countAll l X F k_x0 eo_2) cw_X0_106 hW hZ k_x0 (by decide) rfl rfl rfl hl.1 (Nat.le_of_ble_eq_true rfl) rfl dX0_run_47 ⟨Nat.le_of_ble_eq_true rfl, Nat.le_of_ble_eq_true rfl⟩ (rm_ok0 hkl m1 m2)) hZ (fun _ _ hW km hZ => ?_)
  replace hkl := hkl.tr km.l
  refine x_wc km ?_
  replace k_x0 := km.at k_x0 (by decide)
  exact bX0_run_50 C k_x0 hkl hW hZ _ (lv_sub hl [0] rfl) hE
set_option maxRecDepth 20000 in
theorem bX0_run_23 {p : Program} {l : Launch} {e : Env} {s : State} {m : MethodId} {args : Array Value} {below : List Frame} {meth : Method} {c : Code} {X : Ec} {h0 : Hp} {o : Int32 × Hp} {F : Nat} (C : Cx X p s m args meth c RX0 cX0_run 4 (some .boolean) "run") {h : Hp} {x0 : Nat} {H : Heap} {locs : List Loc} (k_x0 : hK h x0 = 0) (hkl : Kl h0 h) (hW : Wx X h H) (hZ : va_S (aA (eB X)) s.heap H locs) (ls : Array Slot) (hl : lv_has ls 4 [(0, .ref x0)]) (hE : sX0_run_23 F h x0 = some o) : W p l e (rmA 6 171 h0 o.2) s m args below meth c H locs (hS h - hS h0) (hL h - hL h0) (MQ below (QIA X h0 o.1 o.2) args s (hS o.2 - hS h0) (hL o.2 - hL h0) (aA (eB X))) (F0 m 23 ls []) := by
  refine lv_aload_n C.1 C.2.1 dX0_run_23 rfl (lv_at hl 0 rfl) ?_
  refine lv_aload_n C.1 C.2.1 dX0_run_24 rfl (lv_at hl 0 rfl) ?_
  refine gf_X0_74 C hW k_x0 dX0_run_25 ?_
  obtain ⟨h_1, eh_1, hE⟩ := nm_e2 hE
  refine pf_X0_93 C hW hZ k_x0 eh_1 dX0_run_28 (fun _ _ hW km hZ => ?_)
  replace hkl := hkl.tr km.l
  refine x_wc km ?_
  replace k_x0 := km.at k_x0 (by decide)
  refine lv_aload_n C.1 C.2.1 dX0_run_31 rfl (lv_at hl 0 rfl) ?_
  refine lv_iconst (v := (0 : Int32)) C.1 C.2.1 dX0_run_32 (by decide) ?_
  obtain ⟨h_2, eh_2, hE⟩ := nm_e2 hE
  refine pf_X0_96 C hW hZ k_x0 eh_2 dX0_run_33 (fun _ _ hW km hZ => ?_)
  replace hkl := hkl.tr km.l
  refine x_wc km ?_
  replace k_x0 := km.at k_x0 (by decide)
  refine lv_aload_n C.1 C.2.1 dX0_run_36 rfl (lv_at hl 0 rfl) ?_
  obtain ⟨o_3, eo_3, hE⟩ := cl_e hE
  have m1 := moX0_markAll eo_3
  have m2 := moX0_run_40 hE
  refine x_kV (o := o_3) (z_runV (As := []) (rest := []) C (ct_X0_markAll l X F k_x0 eo_3) cw_X0_99 hW hZ k_x0 (by decide) rfl rfl rfl hl.1 (Nat.le_of_ble_eq_true rfl) rfl dX0_run_37 ⟨Nat.le_of_ble_eq_true rfl, Nat.le_of_ble_eq_true rfl⟩ (rm_ok0 hkl m1 m2)) hZ (fun _ _ hW km hZ => ?_)
  replace hkl := hkl.tr km.l
  refine x_wc km ?_
  replace k_x0 := km.at k_x0 (by decide)
  exact bX0_run_40 C k_x0 hkl hW hZ _ (lv_sub hl [0] rfl) hE
set_option maxRecDepth 20000 in
theorem bX0_run_9 {p : Program} {l : Launch} {e : Env} {s : State} {m : MethodId} {args : Array Value} {below : List Frame} {meth : Method} {c : Code} {X : Ec} {h0 : Hp} {o : Int32 × Hp} {F : Nat} (C : Cx X p s m args meth c RX0 cX0_run 4 (some .boolean) "run") {h : Hp} {x0 : Nat} {t0 : Int32} {H : Heap} {locs : List Loc} (k_x0 : hK h x0 = 0) (hkl : Kl h0 h) (hW : Wx X h H) (hZ : va_S (aA (eB X)) s.heap H locs) (ls : Array Slot) (hl : lv_has ls 4 [(0, .ref x0)]) (hE : sX0_run_9 F h x0 t0 = some o) : W p l e (rmA 6 171 h0 o.2) s m args below meth c H locs (hS h - hS h0) (hL h - hL h0) (MQ below (QIA X h0 o.1 o.2) args s (hS o.2 - hS h0) (hL o.2 - hL h0) (aA (eB X))) (F0 m 9 ls [.int t0]) := by
  refine lv_if_ne (tgt := 14) C.1 C.2.1 dX0_run_9 (by decide) (fun c_1 => ?_) (fun c_1 => ?_)
  · have hE := br_n hE c_1
    refine lv_aload_n C.1 C.2.1 dX0_run_14 rfl (lv_at hl 0 rfl) ?_
    refine lv_aload_n C.1 C.2.1 dX0_run_15 rfl (lv_at hl 0 rfl) ?_
    refine gf_X0_85 C hW k_x0 dX0_run_16 ?_
    refine lv_l2i C.1 C.2.1 dX0_run_19 rfl ?_
    obtain ⟨o_2, eo_2, hE⟩ := cl_e hE
    have m1 := moX0_makeRoom eo_2
    have m2 := moX0_run_23 hE
    refine x_kVA (o := o_2) hkl (z_runV (As := [.int ((hJ h x0 18).toInt32)]) (rest := []) C (ct_X0_makeRoom l X k_x0 eo_2) cw_X0_89 hW hZ k_x0 (by decide) rfl rfl rfl hl.1 (Nat.le_of_ble_eq_true rfl) rfl dX0_run_20 ⟨Nat.le_of_ble_eq_true rfl, Nat.le_of_ble_eq_true rfl⟩ (rm_ok hkl m1 m2)) hZ (fun _ _ hW km hZ => ?_)
    replace hkl := hkl.tr km
    replace k_x0 := km.at k_x0 (by decide)
    exact bX0_run_23 C k_x0 hkl hW hZ _ (lv_sub hl [0] rfl) hE
  · have hE := br_p hE c_1
    refine lv_iconst (v := (0 : Int32)) C.1 C.2.1 dX0_run_12 (by decide) ?_
    exact x_iretA C rfl (by decide) hW hZ hkl hE dX0_run_13
set_option maxRecDepth 20000 in
theorem ct_X0_run (l : Launch) (X : Ec) (F : Nat) {h : Hp} {x0 : Nat} {o : Int32 × Hp} (k_x0 : hK h x0 = 0) (hE : sX0_run F h x0 = some o) : MetIA l yX0_run cX0_run 4 (some .boolean) 6 171 X [.ref x0] h o := by
  refine x_metA (oh := o.2) (by decide) (Nat.le_of_ble_eq_true rfl) ?_
  intro p e s m below meth c ls C hl hW hZ
  have hl : lv_has ls 4 [(0, .ref x0)] := hl
  have hkl : Kl h h := Kl.rf h
  refine lv_aload_n C.1 C.2.1 dX0_run_0 rfl (lv_at hl 0 rfl) ?_
  refine lv_iconst (v := (0 : Int32)) C.1 C.2.1 dX0_run_1 (by decide) ?_
  obtain ⟨h_1, eh_1, hE⟩ := nm_e2 hE
  refine pf_X0_77 C hW hZ k_x0 (by decide) eh_1 dX0_run_2 (fun _ _ hW km hZ => ?_)
  replace hkl := hkl.tr km.l
  refine x_wc km ?_
  replace k_x0 := km.at k_x0 (by decide)
  refine lv_aload_n C.1 C.2.1 dX0_run_5 rfl (lv_at hl 0 rfl) ?_
  obtain ⟨o_2, eo_2, hE⟩ := cl_e hE
  have m1 := moX0_gatherSets eo_2
  have m2 := moX0_run_9 hE
  refine x_kI (o := o_2) (z_runV (As := []) (rest := []) C (ct_X0_gatherSets l X F k_x0 eo_2) cw_X0_81 hW hZ k_x0 (by decide) rfl rfl rfl hl.1 (Nat.le_of_ble_eq_true rfl) rfl dX0_run_6 ⟨Nat.le_of_ble_eq_true rfl, Nat.le_of_ble_eq_true rfl⟩ (rm_ok0 hkl m1 m2)) hZ (fun _ _ hW km hZ => ?_)
  replace hkl := hkl.tr km.l
  refine x_wc km ?_
  replace k_x0 := km.at k_x0 (by decide)
  exact bX0_run_9 C k_x0 hkl hW hZ _ (lv_sub hl [0] rfl) hE
section
variable {p : Program} {l : Launch} {e : Env} {R : Room} {s : State} {m : MethodId} {args : Array Value} {below : List Frame} {meth : Method} {c : Code} {H : Heap} {locs : List Loc} {cells slots : Nat} {Q : State → Prop}
variable {cc : ByteArray} {pc : Nat} {ls : Array Slot} {rest : List Value} {X : Ec} {h h1 : Hp} {nL : Nat} {rt : Option FieldType} {mn : String}
theorem gf_X0_77 {a : Nat} (C : Cx X p s m args meth c RX0 cc nL rt mn) (hW : Wx X h H) (ha : hK h a = 0) (hdg : decode cc pc = .ok (.getfield 77, 3)) (kk : W p l e R s m args below meth c H locs cells slots Q (F0 m (pc + 3) ls (.int (hI h a 10) :: rest))) : W p l e R s m args below meth c H locs cells slots Q (F0 m pc ls (.ref a :: rest)) :=
  y_geti C hW ha i_X0 (by decide) rfl (by decide) m_467 rfl hdg kk
end
theorem dX0_nodeOfAll_0 : decode cX0_nodeOfAll 0 = .ok (.aload_n 0, 1) := by decide +kernel
theorem dX0_nodeOfAll_1 : decode cX0_nodeOfAll 1 = .ok (.getfield 77, 3) := by decide +kernel
theorem dX0_nodeOfAll_4 : decode cX0_nodeOfAll 4 = .ok (.ifCond .eq 14, 3) := by decide +kernel
theorem dX0_nodeOfAll_7 : decode cX0_nodeOfAll 7 = .ok (.aload_n 1, 1) := by decide +kernel
theorem dX0_nodeOfAll_8 : decode cX0_nodeOfAll 8 = .ok (.invokevirtual 165, 3) := by decide +kernel
theorem dX0_nodeOfAll_11 : decode cX0_nodeOfAll 11 = .ok (.invokestatic 241, 3) := by decide +kernel
theorem dX0_nodeOfAll_14 : decode cX0_nodeOfAll 14 = .ok (.iconst 5, 1) := by decide +kernel
theorem dX0_nodeOfAll_15 : decode cX0_nodeOfAll 15 = .ok (.if_icmp .le 5, 3) := by decide +kernel
theorem dX0_nodeOfAll_18 : decode cX0_nodeOfAll 18 = .ok (.iconst (-1), 1) := by decide +kernel
theorem dX0_nodeOfAll_19 : decode cX0_nodeOfAll 19 = .ok (.ireturn, 1) := by decide +kernel
theorem dX0_nodeOfAll_20 : decode cX0_nodeOfAll 20 = .ok (.aload_n 0, 1) := by decide +kernel
theorem dX0_nodeOfAll_21 : decode cX0_nodeOfAll 21 = .ok (.aload_n 1, 1) := by decide +kernel
theorem dX0_nodeOfAll_22 : decode cX0_nodeOfAll 22 = .ok (.iconst (-1), 1) := by decide +kernel
theorem dX0_nodeOfAll_23 : decode cX0_nodeOfAll 23 = .ok (.iconst (-1), 1) := by decide +kernel
theorem dX0_nodeOfAll_24 : decode cX0_nodeOfAll 24 = .ok (.invokevirtual 246, 3) := by decide +kernel
theorem dX0_nodeOfAll_27 : decode cX0_nodeOfAll 27 = .ok (.aload_n 0, 1) := by decide +kernel
theorem dX0_nodeOfAll_28 : decode cX0_nodeOfAll 28 = .ok (.aload_n 0, 1) := by decide +kernel
theorem dX0_nodeOfAll_29 : decode cX0_nodeOfAll 29 = .ok (.invokevirtual 250, 3) := by decide +kernel
theorem dX0_nodeOfAll_32 : decode cX0_nodeOfAll 32 = .ok (.invokevirtual 254, 3) := by decide +kernel
theorem dX0_nodeOfAll_35 : decode cX0_nodeOfAll 35 = .ok (.istore_n 2, 1) := by decide +kernel
theorem dX0_nodeOfAll_36 : decode cX0_nodeOfAll 36 = .ok (.iload_n 2, 1) := by decide +kernel
theorem dX0_nodeOfAll_37 : decode cX0_nodeOfAll 37 = .ok (.iconst (-1), 1) := by decide +kernel
theorem dX0_nodeOfAll_38 : decode cX0_nodeOfAll 38 = .ok (.if_icmp .ne 7, 3) := by decide +kernel
theorem dX0_nodeOfAll_41 : decode cX0_nodeOfAll 41 = .ok (.iconst (-1), 1) := by decide +kernel
theorem dX0_nodeOfAll_42 : decode cX0_nodeOfAll 42 = .ok (.goto 22, 3) := by decide +kernel
theorem dX0_nodeOfAll_45 : decode cX0_nodeOfAll 45 = .ok (.aload_n 0, 1) := by decide +kernel
theorem dX0_nodeOfAll_46 : decode cX0_nodeOfAll 46 = .ok (.getfield 22, 3) := by decide +kernel
theorem dX0_nodeOfAll_49 : decode cX0_nodeOfAll 49 = .ok (.iload_n 2, 1) := by decide +kernel
theorem dX0_nodeOfAll_50 : decode cX0_nodeOfAll 50 = .ok (.iaload, 1) := by decide +kernel
theorem dX0_nodeOfAll_51 : decode cX0_nodeOfAll 51 = .ok (.iconst 2, 1) := by decide +kernel
theorem dX0_nodeOfAll_52 : decode cX0_nodeOfAll 52 = .ok (.aload_n 0, 1) := by decide +kernel
theorem dX0_nodeOfAll_53 : decode cX0_nodeOfAll 53 = .ok (.iconst (-1), 1) := by decide +kernel
theorem dX0_nodeOfAll_54 : decode cX0_nodeOfAll 54 = .ok (.invokevirtual 257, 3) := by decide +kernel
theorem dX0_nodeOfAll_57 : decode cX0_nodeOfAll 57 = .ok (.imul, 1) := by decide +kernel
theorem dX0_nodeOfAll_58 : decode cX0_nodeOfAll 58 = .ok (.iadd, 1) := by decide +kernel
theorem dX0_nodeOfAll_59 : decode cX0_nodeOfAll 59 = .ok (.aload_n 1, 1) := by decide +kernel
theorem dX0_nodeOfAll_60 : decode cX0_nodeOfAll 60 = .ok (.getfield 192, 3) := by decide +kernel
theorem dX0_nodeOfAll_63 : decode cX0_nodeOfAll 63 = .ok (.iadd, 1) := by decide +kernel
theorem dX0_nodeOfAll_64 : decode cX0_nodeOfAll 64 = .ok (.ireturn, 1) := by decide +kernel
def sX0_nodeOfAll_18 (F : Nat) (h : Hp) : Option (Int32 × Hp) := some ((-1 : Int32), h)
def sX0_nodeOfAll_64 (F : Nat) (h : Hp) (t0 : Int32) : Option (Int32 × Hp) := some (t0, h)
def sX0_nodeOfAll (F : Nat) (h : Hp) (x0 : Nat) (x1 : Nat) : Option (Int32 × Hp) := br ((hI h x0 10) = 0) (sX0_nodeOfAll_18 F h ) (cl (sX3_occupied h x1) fun o_2 => cl (sJ13_bitCount_95d88 o_2.2 o_2.1) fun o_3 => br (o_3.1 ≤ (5 : Int32)) (cl (sX0_gatherRow F o_3.2 x0 x1 (-1 : Int32) (-1 : Int32)) fun o_5 => cl (sX0_keyOfRow F o_5 x0) fun o_6 => cl (sX0_findSet F o_6.2 x0 o_6.1) fun o_7 => br (o_7.1 = (-1 : Int32)) (sX0_nodeOfAll_64 F o_7.2 (-1 : Int32)) (cl (hR o_7.2 x0 5) fun r_9 => gd (inB o_7.1 (hN o_7.2 r_9)) <| cl (sX0_numberOf F o_7.2 x0 (-1 : Int32)) fun o_11 => sX0_nodeOfAll_64 F o_11.2 (((hI o_7.2 r_9 o_7.1.toNatClampNeg) + ((2 : Int32) * o_11.1)) + (hI o_11.2 x1 5)))) (sX0_nodeOfAll_18 F o_3.2 ))
set_option maxRecDepth 20000 in
theorem bX0_nodeOfAll_18 {p : Program} {l : Launch} {e : Env} {s : State} {m : MethodId} {args : Array Value} {below : List Frame} {meth : Method} {c : Code} {X : Ec} {h0 : Hp} {o : Int32 × Hp} {F : Nat} (C : Cx X p s m args meth c RX0 cX0_nodeOfAll 3 (some .int) "nodeOfAll") {h : Hp} {H : Heap} {locs : List Loc} (hkm : Km h0 h) (hW : Wx X h H) (hZ : va_S (aA (eB X)) s.heap H locs) (ls : Array Slot) (hl : lv_has ls 3 []) (hE : sX0_nodeOfAll_18 F h  = some o) : W p l e (rm 2 50) s m args below meth c H locs 0 0 (MQ below (QI X h0 o.1 o.2) args s 0 0 (aA (eB X))) (F0 m 18 ls []) := by
  refine lv_iconst (v := (-1 : Int32)) C.1 C.2.1 dX0_nodeOfAll_18 (by decide) ?_
  exact x_iret C rfl rfl hW hZ hkm hE dX0_nodeOfAll_19
set_option maxRecDepth 20000 in
theorem bX0_nodeOfAll_64 {p : Program} {l : Launch} {e : Env} {s : State} {m : MethodId} {args : Array Value} {below : List Frame} {meth : Method} {c : Code} {X : Ec} {h0 : Hp} {o : Int32 × Hp} {F : Nat} (C : Cx X p s m args meth c RX0 cX0_nodeOfAll 3 (some .int) "nodeOfAll") {h : Hp} {t0 : Int32} {H : Heap} {locs : List Loc} (hkm : Km h0 h) (hW : Wx X h H) (hZ : va_S (aA (eB X)) s.heap H locs) (ls : Array Slot) (hl : lv_has ls 3 []) (hE : sX0_nodeOfAll_64 F h  t0 = some o) : W p l e (rm 2 50) s m args below meth c H locs 0 0 (MQ below (QI X h0 o.1 o.2) args s 0 0 (aA (eB X))) (F0 m 64 ls [.int t0]) := by
  exact x_iret C rfl rfl hW hZ hkm hE dX0_nodeOfAll_64
set_option maxRecDepth 20000 in
theorem ct_X0_nodeOfAll (l : Launch) (X : Ec) (F : Nat) {h : Hp} {x0 : Nat} {x1 : Nat} {o : Int32 × Hp} (k_x0 : hK h x0 = 0) (k_x1 : hK h x1 = 3) (hE : sX0_nodeOfAll F h x0 x1 = some o) : MetI l yX0_nodeOfAll cX0_nodeOfAll 3 (some .int) 2 50 X [.ref x0, .ref x1] h o := by
  refine x_met (by decide) (Nat.le_of_ble_eq_true rfl) ?_
  intro p e s m below meth c ls C hl hW hZ
  have hl : lv_has ls 3 [(0, .ref x0), (1, .ref x1)] := hl
  have hkm : Km h h := Km.rf h
  refine lv_aload_n C.1 C.2.1 dX0_nodeOfAll_0 rfl (lv_at hl 0 rfl) ?_
  refine gf_X0_77 C hW k_x0 dX0_nodeOfAll_1 ?_
  refine lv_if_eq (tgt := 18) C.1 C.2.1 dX0_nodeOfAll_4 (by decide) (fun c_1 => ?_) (fun c_1 => ?_)
  · have hE := br_p hE c_1
    exact bX0_nodeOfAll_18 C hkm hW hZ _ (lv_sub hl [] rfl) hE
  · have hE := br_n hE c_1
    refine lv_aload_n C.1 C.2.1 dX0_nodeOfAll_7 rfl (lv_at hl 1 rfl) ?_
    obtain ⟨o_2, eo_2, hE⟩ := cl_e hE
    refine x_kJ (o := o_2) (z_runV (As := []) (rest := []) C (ct_X3_occupied l X k_x1 eo_2) cw_X0_165 hW hZ k_x1 (by decide) rfl rfl rfl hl.1 (Nat.le_of_ble_eq_true rfl) rfl dX0_nodeOfAll_8 ⟨Nat.le_of_ble_eq_true rfl, Nat.le_of_ble_eq_true rfl⟩ ⟨Nat.le_refl _, Nat.le_refl _⟩) hZ (fun _ _ hW km hZ => ?_)
    replace hkm := hkm.tr km
    replace k_x0 := km.at k_x0 (by decide)
    replace k_x1 := km.at k_x1 (by decide)
    obtain ⟨o_3, eo_3, hE⟩ := cl_e hE
    refine x_kI (o := o_3) (z_runS (As := [.long o_2.1]) (rest := []) C (ct_J13_bitCount_95d88 l X eo_3) cw_X0_241 hW hZ rfl hl.1 (Nat.le_of_ble_eq_true rfl) rfl dX0_nodeOfAll_11 ⟨Nat.le_of_ble_eq_true rfl, Nat.le_of_ble_eq_true rfl⟩ ⟨Nat.le_refl _, Nat.le_refl _⟩) hZ (fun _ _ hW km hZ => ?_)
    replace hkm := hkm.tr km
    replace k_x0 := km.at k_x0 (by decide)
    replace k_x1 := km.at k_x1 (by decide)
    refine lv_iconst (v := (5 : Int32)) C.1 C.2.1 dX0_nodeOfAll_14 (by decide) ?_
    refine lv_icmp_le (tgt := 20) C.1 C.2.1 dX0_nodeOfAll_15 (by decide) (fun c_4 => ?_) (fun c_4 => ?_)
    · have hE := br_p hE c_4
      refine lv_aload_n C.1 C.2.1 dX0_nodeOfAll_20 rfl (lv_at hl 0 rfl) ?_
      refine lv_aload_n C.1 C.2.1 dX0_nodeOfAll_21 rfl (lv_at hl 1 rfl) ?_
      refine lv_iconst (v := (-1 : Int32)) C.1 C.2.1 dX0_nodeOfAll_22 (by decide) ?_
      refine lv_iconst (v := (-1 : Int32)) C.1 C.2.1 dX0_nodeOfAll_23 (by decide) ?_
      obtain ⟨o_5, eo_5, hE⟩ := cl_e hE
      refine x_kV (o := o_5) (z_runV (As := [.ref x1, .int (-1 : Int32), .int (-1 : Int32)]) (rest := []) C (ct_X0_gatherRow l X F k_x0 k_x1 eo_5) cw_X0_246 hW hZ k_x0 (by decide) rfl rfl rfl hl.1 (Nat.le_of_ble_eq_true rfl) rfl dX0_nodeOfAll_24 ⟨Nat.le_of_ble_eq_true rfl, Nat.le_of_ble_eq_true rfl⟩ ⟨Nat.le_refl _, Nat.le_refl _⟩) hZ (fun _ _ hW km hZ => ?_)
      replace hkm := hkm.tr km
      replace k_x0 := km.at k_x0 (by decide)
      replace k_x1 := km.at k_x1 (by decide)
      refine lv_aload_n C.1 C.2.1 dX0_nodeOfAll_27 rfl (lv_at hl 0 rfl) ?_
      refine lv_aload_n C.1 C.2.1 dX0_nodeOfAll_28 rfl (lv_at hl 0 rfl) ?_
      obtain ⟨o_6, eo_6, hE⟩ := cl_e hE
      refine x_kI (o := o_6) (z_runV (As := []) (rest := [.ref x0]) C (ct_X0_keyOfRow l X F k_x0 eo_6) cw_X0_250 hW hZ k_x0 (by decide) rfl rfl rfl hl.1 (Nat.le_of_ble_eq_true rfl) rfl dX0_nodeOfAll_29 ⟨Nat.le_of_ble_eq_true rfl, Nat.le_of_ble_eq_true rfl⟩ ⟨Nat.le_refl _, Nat.le_refl _⟩) hZ (fun _ _ hW km hZ => ?_)
      replace hkm := hkm.tr km
      replace k_x0 := km.at k_x0 (by decide)
      replace k_x1 := km.at k_x1 (by decide)
      obtain ⟨o_7, eo_7, hE⟩ := cl_e hE
      refine x_kI (o := o_7) (z_runV (As := [.int o_6.1]) (rest := []) C (ct_X0_findSet l X F k_x0 eo_7) cw_X0_254 hW hZ k_x0 (by decide) rfl rfl rfl hl.1 (Nat.le_of_ble_eq_true rfl) rfl dX0_nodeOfAll_32 ⟨Nat.le_of_ble_eq_true rfl, Nat.le_of_ble_eq_true rfl⟩ ⟨Nat.le_refl _, Nat.le_refl _⟩) hZ (fun _ _ hW km hZ => ?_)
      replace hkm := hkm.tr km
      replace k_x0 := km.at k_x0 (by decide)
      replace k_x1 := km.at k_x1 (by decide)
      refine lv_istore_n (lv' := [(2, .int o_7.1), (0, .ref x0), (1, .ref x1)]) C.1 C.2.1 dX0_nodeOfAll_35 rfl hl (by decide) rfl (fun ls hl => ?_)
      refine lv_iload_n C.1 C.2.1 dX0_nodeOfAll_36 rfl (lv_at hl 0 rfl) ?_
      refine lv_iconst (v := (-1 : Int32)) C.1 C.2.1 dX0_nodeOfAll_37 (by decide) ?_
      refine lv_icmp_ne (tgt := 45) C.1 C.2.1 dX0_nodeOfAll_38 (by decide) (fun c_8 => ?_) (fun c_8 => ?_)
      · have hE := br_n hE c_8
        refine lv_aload_n C.1 C.2.1 dX0_nodeOfAll_45 rfl (lv_at hl 1 rfl) ?_
        obtain ⟨r_9, er_9, hE⟩ := cl_e hE
        refine gf_X0_22 C hW k_x0 er_9 dX0_nodeOfAll_46 (fun k_r_9 => ?_)
        refine lv_iload_n C.1 C.2.1 dX0_nodeOfAll_49 rfl (lv_at hl 0 rfl) ?_
        obtain ⟨g_10, hE⟩ := gd_e hE
        refine y_iald C hW k_r_9 g_10 dX0_nodeOfAll_50 ?_
        refine lv_iconst (v := (2 : Int32)) C.1 C.2.1 dX0_nodeOfAll_51 (by decide) ?_
        refine lv_aload_n C.1 C.2.1 dX0_nodeOfAll_52 rfl (lv_at hl 1 rfl) ?_
        refine lv_iconst (v := (-1 : Int32)) C.1 C.2.1 dX0_nodeOfAll_53 (by decide) ?_
        obtain ⟨o_11, eo_11, hE⟩ := cl_e hE
        refine x_kI (o := o_11) (z_runV (As := [.int (-1 : Int32)]) (rest := [.int (2 : Int32), .int (hI o_7.2 r_9 o_7.1.toNatClampNeg)]) C (ct_X0_numberOf l X F k_x0 eo_11) cw_X0_257 hW hZ k_x0 (by decide) rfl rfl rfl hl.1 (Nat.le_of_ble_eq_true rfl) rfl dX0_nodeOfAll_54 ⟨Nat.le_of_ble_eq_true rfl, Nat.le_of_ble_eq_true rfl⟩ ⟨Nat.le_refl _, Nat.le_refl _⟩) hZ (fun _ _ hW km hZ => ?_)
        replace hkm := hkm.tr km
        replace k_x0 := km.at k_x0 (by decide)
        replace k_x1 := km.at k_x1 (by decide)
        refine lv_imul C.1 C.2.1 dX0_nodeOfAll_57 ?_
        refine lv_iadd C.1 C.2.1 dX0_nodeOfAll_58 ?_
        refine lv_aload_n C.1 C.2.1 dX0_nodeOfAll_59 rfl (lv_at hl 2 rfl) ?_
        refine gf_X0_192 C hW k_x1 dX0_nodeOfAll_60 ?_
        refine lv_iadd C.1 C.2.1 dX0_nodeOfAll_63 ?_
        exact bX0_nodeOfAll_64 C hkm hW hZ _ (lv_sub hl [] rfl) hE
      · have hE := br_p hE c_8
        refine lv_iconst (v := (-1 : Int32)) C.1 C.2.1 dX0_nodeOfAll_41 (by decide) ?_
        refine lv_goto (tgt := 64) C.1 C.2.1 dX0_nodeOfAll_42 (by decide) ?_
        exact bX0_nodeOfAll_64 C hkm hW hZ _ (lv_sub hl [] rfl) hE
    · have hE := br_n hE c_4
      exact bX0_nodeOfAll_18 C hkm hW hZ _ (lv_sub hl [] rfl) hE
theorem dX0_countWorth_0 : decode cX0_countWorth 0 = .ok (.aload_n 0, 1) := by decide +kernel
theorem dX0_countWorth_1 : decode cX0_countWorth 1 = .ok (.aload_n 0, 1) := by decide +kernel
theorem dX0_countWorth_2 : decode cX0_countWorth 2 = .ok (.getfield 93, 3) := by decide +kernel
theorem dX0_countWorth_5 : decode cX0_countWorth 5 = .ok (.invokevirtual 254, 3) := by decide +kernel
theorem dX0_countWorth_8 : decode cX0_countWorth 8 = .ok (.istore_n 3, 1) := by decide +kernel
theorem dX0_countWorth_9 : decode cX0_countWorth 9 = .ok (.iconst 0, 1) := by decide +kernel
theorem dX0_countWorth_10 : decode cX0_countWorth 10 = .ok (.istore 4, 2) := by decide +kernel
theorem dX0_countWorth_12 : decode cX0_countWorth 12 = .ok (.iload_n 3, 1) := by decide +kernel
theorem dX0_countWorth_13 : decode cX0_countWorth 13 = .ok (.iconst (-1), 1) := by decide +kernel
theorem dX0_countWorth_14 : decode cX0_countWorth 14 = .ok (.if_icmp .ne 7, 3) := by decide +kernel
theorem dX0_countWorth_17 : decode cX0_countWorth 17 = .ok (.iconst 0, 1) := by decide +kernel
theorem dX0_countWorth_18 : decode cX0_countWorth 18 = .ok (.goto 9, 3) := by decide +kernel
theorem dX0_countWorth_21 : decode cX0_countWorth 21 = .ok (.aload_n 0, 1) := by decide +kernel
theorem dX0_countWorth_22 : decode cX0_countWorth 22 = .ok (.getfield 22, 3) := by decide +kernel
theorem dX0_countWorth_25 : decode cX0_countWorth 25 = .ok (.iload_n 3, 1) := by decide +kernel
theorem dX0_countWorth_26 : decode cX0_countWorth 26 = .ok (.iaload, 1) := by decide +kernel
theorem dX0_countWorth_27 : decode cX0_countWorth 27 = .ok (.istore 5, 2) := by decide +kernel
theorem dX0_countWorth_29 : decode cX0_countWorth 29 = .ok (.iload_n 3, 1) := by decide +kernel
theorem dX0_countWorth_30 : decode cX0_countWorth 30 = .ok (.iconst (-1), 1) := by decide +kernel
theorem dX0_countWorth_31 : decode cX0_countWorth 31 = .ok (.if_icmp .eq 45, 3) := by decide +kernel
theorem dX0_countWorth_34 : decode cX0_countWorth 34 = .ok (.iload 5, 2) := by decide +kernel
theorem dX0_countWorth_36 : decode cX0_countWorth 36 = .ok (.aload_n 0, 1) := by decide +kernel
theorem dX0_countWorth_37 : decode cX0_countWorth 37 = .ok (.getfield 22, 3) := by decide +kernel
theorem dX0_countWorth_40 : decode cX0_countWorth 40 = .ok (.iload_n 3, 1) := by decide +kernel
theorem dX0_countWorth_41 : decode cX0_countWorth 41 = .ok (.iconst 1, 1) := by decide +kernel
theorem dX0_countWorth_42 : decode cX0_countWorth 42 = .ok (.iadd, 1) := by decide +kernel
theorem dX0_countWorth_43 : decode cX0_countWorth 43 = .ok (.iaload, 1) := by decide +kernel
theorem dX0_countWorth_44 : decode cX0_countWorth 44 = .ok (.if_icmp .ge 32, 3) := by decide +kernel
theorem dX0_countWorth_47 : decode cX0_countWorth 47 = .ok (.iload 4, 2) := by decide +kernel
theorem dX0_countWorth_49 : decode cX0_countWorth 49 = .ok (.aload_n 0, 1) := by decide +kernel
theorem dX0_countWorth_50 : decode cX0_countWorth 50 = .ok (.getfield 31, 3) := by decide +kernel
theorem dX0_countWorth_53 : decode cX0_countWorth 53 = .ok (.iload 5, 2) := by decide +kernel
theorem dX0_countWorth_55 : decode cX0_countWorth 55 = .ok (.iload_n 1, 1) := by decide +kernel
theorem dX0_countWorth_56 : decode cX0_countWorth 56 = .ok (.iadd, 1) := by decide +kernel
theorem dX0_countWorth_57 : decode cX0_countWorth 57 = .ok (.iaload, 1) := by decide +kernel
theorem dX0_countWorth_58 : decode cX0_countWorth 58 = .ok (.iload_n 2, 1) := by decide +kernel
theorem dX0_countWorth_59 : decode cX0_countWorth 59 = .ok (.if_icmp .ne 7, 3) := by decide +kernel
theorem dX0_countWorth_62 : decode cX0_countWorth 62 = .ok (.iconst 1, 1) := by decide +kernel
theorem dX0_countWorth_63 : decode cX0_countWorth 63 = .ok (.goto 4, 3) := by decide +kernel
theorem dX0_countWorth_66 : decode cX0_countWorth 66 = .ok (.iconst 0, 1) := by decide +kernel
theorem dX0_countWorth_67 : decode cX0_countWorth 67 = .ok (.iadd, 1) := by decide +kernel
theorem dX0_countWorth_68 : decode cX0_countWorth 68 = .ok (.istore 4, 2) := by decide +kernel
theorem dX0_countWorth_70 : decode cX0_countWorth 70 = .ok (.iinc 5 2, 3) := by decide +kernel
theorem dX0_countWorth_73 : decode cX0_countWorth 73 = .ok (.goto (-44), 3) := by decide +kernel
theorem dX0_countWorth_76 : decode cX0_countWorth 76 = .ok (.iload 4, 2) := by decide +kernel
theorem dX0_countWorth_78 : decode cX0_countWorth 78 = .ok (.ireturn, 1) := by decide +kernel
def sX0_countWorth_76 (F : Nat) (h : Hp) (x4 : Int32) : Option (Int32 × Hp) := some (x4, h)
def sX0_countWorth_67 (F : Nat) (k_29 : Hp → Nat → Int32 → Int32 → Int32 → Int32 → Int32 → Option (Int32 × Hp)) (h : Hp) (x0 : Nat) (x1 : Int32) (x2 : Int32) (x3 : Int32) (x5 : Int32) (t0 : Int32) (t1 : Int32) : Option (Int32 × Hp) := nm (t1 + t0) fun v_1 => nm (x5 + (2 : Int32)) fun v_2 => k_29 h x0 x1 x2 x3 v_1 v_2
def sX0_countWorth_29 (F : Nat) : Nat → Hp → Nat → Int32 → Int32 → Int32 → Int32 → Int32 → Option (Int32 × Hp)
  | 0, _, _, _, _, _, _, _ => none
  | f + 1, h, x0, x1, x2, x3, x4, x5 => br (x3 = (-1 : Int32)) (sX0_countWorth_76 F h x4) (cl (hR h x0 5) fun r_2 => gd (inB (x3 + (1 : Int32)) (hN h r_2)) <| br ((hI h r_2 (x3 + (1 : Int32)).toNatClampNeg) ≤ x5) (sX0_countWorth_76 F h x4) (cl (hR h x0 11) fun r_5 => gd (inB (x5 + x1) (hN h r_5)) <| br ((hI h r_5 (x5 + x1).toNatClampNeg) = x2) (sX0_countWorth_67 F (sX0_countWorth_29 F f) h x0 x1 x2 x3 x5 (1 : Int32) x4) (sX0_countWorth_67 F (sX0_countWorth_29 F f) h x0 x1 x2 x3 x5 (0 : Int32) x4)))
def sX0_countWorth_27 (F : Nat) (h : Hp) (x0 : Nat) (x1 : Int32) (x2 : Int32) (x3 : Int32) (x4 : Int32) (t0 : Int32) : Option (Int32 × Hp) := sX0_countWorth_29 F F h x0 x1 x2 x3 x4 t0
def sX0_countWorth (F : Nat) (h : Hp) (x0 : Nat) (x1 : Int32) (x2 : Int32) : Option (Int32 × Hp) := cl (sX0_findSet F h x0 (hI h x0 15)) fun o_1 => br (o_1.1 = (-1 : Int32)) (sX0_countWorth_27 F o_1.2 x0 x1 x2 o_1.1 (0 : Int32) (0 : Int32)) (cl (hR o_1.2 x0 5) fun r_3 => gd (inB o_1.1 (hN o_1.2 r_3)) <| sX0_countWorth_27 F o_1.2 x0 x1 x2 o_1.1 (0 : Int32) (hI o_1.2 r_3 o_1.1.toNatClampNeg))
set_option maxRecDepth 20000 in
theorem bX0_countWorth_76 {p : Program} {l : Launch} {e : Env} {s : State} {m : MethodId} {args : Array Value} {below : List Frame} {meth : Method} {c : Code} {X : Ec} {h0 : Hp} {o : Int32 × Hp} {F : Nat} (C : Cx X p s m args meth c RX0 cX0_countWorth 6 (some .int) "countWorth") {h : Hp} {x4 : Int32} {H : Heap} {locs : List Loc} (hkm : Km h0 h) (hW : Wx X h H) (hZ : va_S (aA (eB X)) s.heap H locs) (ls : Array Slot) (hl : lv_has ls 6 [(4, .int x4)]) (hE : sX0_countWorth_76 F h x4 = some o) : W p l e (rm 1 24) s m args below meth c H locs 0 0 (MQ below (QI X h0 o.1 o.2) args s 0 0 (aA (eB X))) (F0 m 76 ls []) := by
  refine lv_iload C.1 C.2.1 dX0_countWorth_76 (lv_at hl 0 rfl) ?_
  exact x_iret C rfl rfl hW hZ hkm hE dX0_countWorth_78
set_option maxRecDepth 20000 in
theorem bX0_countWorth_67 {p : Program} {l : Launch} {e : Env} {s : State} {m : MethodId} {args : Array Value} {below : List Frame} {meth : Method} {c : Code} {X : Ec} {h0 : Hp} {o : Int32 × Hp} {k_29 : Hp → Nat → Int32 → Int32 → Int32 → Int32 → Int32 → Option (Int32 × Hp)} {F : Nat} (C : Cx X p s m args meth c RX0 cX0_countWorth 6 (some .int) "countWorth") (hk_29 : ∀ (h : Hp) (x0 : Nat) (x1 : Int32) (x2 : Int32) (x3 : Int32) (x4 : Int32) (x5 : Int32) (H : Heap) (locs : List Loc), hK h x0 = 0 → Km h0 h → Wx X h H → va_S (aA (eB X)) s.heap H locs → ∀ (ls : Array Slot), lv_has ls 6 [(0, .ref x0), (1, .int x1), (2, .int x2), (3, .int x3), (4, .int x4), (5, .int x5)] → k_29 h x0 x1 x2 x3 x4 x5 = some o → W p l e (rm 1 24) s m args below meth c H locs 0 0 (MQ below (QI X h0 o.1 o.2) args s 0 0 (aA (eB X))) (F0 m 29 ls [])) {h : Hp} {x0 : Nat} {x1 : Int32} {x2 : Int32} {x3 : Int32} {x5 : Int32} {t0 : Int32} {t1 : Int32} {H : Heap} {locs : List Loc} (k_x0 : hK h x0 = 0) (hkm : Km h0 h) (hW : Wx X h H) (hZ : va_S (aA (eB X)) s.heap H locs) (ls : Array Slot) (hl : lv_has ls 6 [(0, .ref x0), (1, .int x1), (2, .int x2), (3, .int x3), (5, .int x5)]) (hE : sX0_countWorth_67 F k_29 h x0 x1 x2 x3 x5 t0 t1 = some o) : W p l e (rm 1 24) s m args below meth c H locs 0 0 (MQ below (QI X h0 o.1 o.2) args s 0 0 (aA (eB X))) (F0 m 67 ls [.int t0, .int t1]) := by
  refine lv_iadd C.1 C.2.1 dX0_countWorth_67 ?_
  obtain ⟨v_1, ev_1, hE⟩ := nm_e2 hE
  refine x_nmI ev_1 ?_
  refine lv_istore (lv' := [(4, .int v_1), (0, .ref x0), (1, .int x1), (2, .int x2), (3, .int x3), (5, .int x5)]) C.1 C.2.1 dX0_countWorth_68 hl (by decide) rfl (fun ls hl => ?_)
  obtain ⟨v_2, ev_2, hE⟩ := nm_e2 hE
  refine lv_iinc (v := v_2) (lv' := [(5, .int v_2), (4, .int v_1), (0, .ref x0), (1, .int x1), (2, .int x2), (3, .int x3)]) C.1 C.2.1 dX0_countWorth_70 hl (k := 5) rfl (by rw [ev_2]; rfl) (by decide) rfl (fun ls hl => ?_)
  refine lv_goto (tgt := 29) C.1 C.2.1 dX0_countWorth_73 (by decide) ?_
  exact hk_29 _ _ _ _ _ _ _ _ _ k_x0 hkm hW hZ _ (lv_sub hl [2, 3, 4, 5, 1, 0] rfl) hE
set_option maxRecDepth 20000 in
theorem bX0_countWorth_29 {p : Program} {l : Launch} {e : Env} {s : State} {m : MethodId} {args : Array Value} {below : List Frame} {meth : Method} {c : Code} {X : Ec} {h0 : Hp} {o : Int32 × Hp} {F : Nat} (C : Cx X p s m args meth c RX0 cX0_countWorth 6 (some .int) "countWorth") : ∀ (f : Nat) {h : Hp} {x0 : Nat} {x1 : Int32} {x2 : Int32} {x3 : Int32} {x4 : Int32} {x5 : Int32} {H : Heap} {locs : List Loc} (k_x0 : hK h x0 = 0), Km h0 h → Wx X h H → va_S (aA (eB X)) s.heap H locs → ∀ (ls : Array Slot), lv_has ls 6 [(0, .ref x0), (1, .int x1), (2, .int x2), (3, .int x3), (4, .int x4), (5, .int x5)] → sX0_countWorth_29 F f h x0 x1 x2 x3 x4 x5 = some o → W p l e (rm 1 24) s m args below meth c H locs 0 0 (MQ below (QI X h0 o.1 o.2) args s 0 0 (aA (eB X))) (F0 m 29 ls []) := by
  intro f
  induction f with
  | zero =>
    intro h x0 x1 x2 x3 x4 x5 H locs k_x0 hkm hW hZ ls hl hE
    rw [sX0_countWorth_29] at hE
    cases hE
  | succ f ih =>
    intro h x0 x1 x2 x3 x4 x5 H locs k_x0 hkm hW hZ ls hl hE
    rw [sX0_countWorth_29] at hE
    have hk_29 : ∀ (h : Hp) (x0 : Nat) (x1 : Int32) (x2 : Int32) (x3 : Int32) (x4 : Int32) (x5 : Int32) (H : Heap) (locs : List Loc), hK h x0 = 0 → Km h0 h → Wx X h H → va_S (aA (eB X)) s.heap H locs → ∀ (ls : Array Slot), lv_has ls 6 [(0, .ref x0), (1, .int x1), (2, .int x2), (3, .int x3), (4, .int x4), (5, .int x5)] → sX0_countWorth_29 F f h x0 x1 x2 x3 x4 x5 = some o → W p l e (rm 1 24) s m args below meth c H locs 0 0 (MQ below (QI X h0 o.1 o.2) args s 0 0 (aA (eB X))) (F0 m 29 ls []) := fun h x0 x1 x2 x3 x4 x5 H locs k_x0 a b c ls hl hE => ih k_x0 a b c ls hl hE
    refine lv_iload_n C.1 C.2.1 dX0_countWorth_29 rfl (lv_at hl 3 rfl) ?_
    refine lv_iconst (v := (-1 : Int32)) C.1 C.2.1 dX0_countWorth_30 (by decide) ?_
    refine lv_icmp_eq (tgt := 76) C.1 C.2.1 dX0_countWorth_31 (by decide) (fun c_1 => ?_) (fun c_1 => ?_)
    · have hE := br_p hE c_1
      exact bX0_countWorth_76 C hkm hW hZ _ (lv_sub hl [4] rfl) hE
    · have hE := br_n hE c_1
      refine lv_iload C.1 C.2.1 dX0_countWorth_34 (lv_at hl 5 rfl) ?_
      refine lv_aload_n C.1 C.2.1 dX0_countWorth_36 rfl (lv_at hl 0 rfl) ?_
      obtain ⟨r_2, er_2, hE⟩ := cl_e hE
      refine gf_X0_22 C hW k_x0 er_2 dX0_countWorth_37 (fun k_r_2 => ?_)
      refine lv_iload_n C.1 C.2.1 dX0_countWorth_40 rfl (lv_at hl 3 rfl) ?_
      refine lv_iconst (v := (1 : Int32)) C.1 C.2.1 dX0_countWorth_41 (by decide) ?_
      refine lv_iadd C.1 C.2.1 dX0_countWorth_42 ?_
      obtain ⟨g_3, hE⟩ := gd_e hE
      refine y_iald C hW k_r_2 g_3 dX0_countWorth_43 ?_
      refine lv_icmp_ge (tgt := 76) C.1 C.2.1 dX0_countWorth_44 (by decide) (fun c_4 => ?_) (fun c_4 => ?_)
      · have hE := br_p hE c_4
        exact bX0_countWorth_76 C hkm hW hZ _ (lv_sub hl [4] rfl) hE
      · have hE := br_n hE c_4
        refine lv_iload C.1 C.2.1 dX0_countWorth_47 (lv_at hl 4 rfl) ?_
        refine lv_aload_n C.1 C.2.1 dX0_countWorth_49 rfl (lv_at hl 0 rfl) ?_
        obtain ⟨r_5, er_5, hE⟩ := cl_e hE
        refine gf_X0_31 C hW k_x0 er_5 dX0_countWorth_50 (fun k_r_5 => ?_)
        refine lv_iload C.1 C.2.1 dX0_countWorth_53 (lv_at hl 5 rfl) ?_
        refine lv_iload_n C.1 C.2.1 dX0_countWorth_55 rfl (lv_at hl 1 rfl) ?_
        refine lv_iadd C.1 C.2.1 dX0_countWorth_56 ?_
        obtain ⟨g_6, hE⟩ := gd_e hE
        refine y_iald C hW k_r_5 g_6 dX0_countWorth_57 ?_
        refine lv_iload_n C.1 C.2.1 dX0_countWorth_58 rfl (lv_at hl 2 rfl) ?_
        refine lv_icmp_ne (tgt := 66) C.1 C.2.1 dX0_countWorth_59 (by decide) (fun c_7 => ?_) (fun c_7 => ?_)
        · have hE := br_n hE c_7
          refine lv_iconst (v := (0 : Int32)) C.1 C.2.1 dX0_countWorth_66 (by decide) ?_
          exact bX0_countWorth_67 C hk_29 k_x0 hkm hW hZ _ (lv_sub hl [0, 1, 2, 3, 5] rfl) hE
        · have hE := br_p hE c_7
          refine lv_iconst (v := (1 : Int32)) C.1 C.2.1 dX0_countWorth_62 (by decide) ?_
          refine lv_goto (tgt := 67) C.1 C.2.1 dX0_countWorth_63 (by decide) ?_
          exact bX0_countWorth_67 C hk_29 k_x0 hkm hW hZ _ (lv_sub hl [0, 1, 2, 3, 5] rfl) hE
set_option maxRecDepth 20000 in
theorem bX0_countWorth_27 {p : Program} {l : Launch} {e : Env} {s : State} {m : MethodId} {args : Array Value} {below : List Frame} {meth : Method} {c : Code} {X : Ec} {h0 : Hp} {o : Int32 × Hp} {F : Nat} (C : Cx X p s m args meth c RX0 cX0_countWorth 6 (some .int) "countWorth") {h : Hp} {x0 : Nat} {x1 : Int32} {x2 : Int32} {x3 : Int32} {x4 : Int32} {t0 : Int32} {H : Heap} {locs : List Loc} (k_x0 : hK h x0 = 0) (hkm : Km h0 h) (hW : Wx X h H) (hZ : va_S (aA (eB X)) s.heap H locs) (ls : Array Slot) (hl : lv_has ls 6 [(0, .ref x0), (1, .int x1), (2, .int x2), (3, .int x3), (4, .int x4)]) (hE : sX0_countWorth_27 F h x0 x1 x2 x3 x4 t0 = some o) : W p l e (rm 1 24) s m args below meth c H locs 0 0 (MQ below (QI X h0 o.1 o.2) args s 0 0 (aA (eB X))) (F0 m 27 ls [.int t0]) := by
  refine lv_istore (lv' := [(5, .int t0), (0, .ref x0), (1, .int x1), (2, .int x2), (3, .int x3), (4, .int x4)]) C.1 C.2.1 dX0_countWorth_27 hl (by decide) rfl (fun ls hl => ?_)
  exact bX0_countWorth_29 C F k_x0 hkm hW hZ _ (lv_sub hl [1, 2, 3, 4, 5, 0] rfl) hE
set_option maxRecDepth 20000 in
theorem ct_X0_countWorth (l : Launch) (X : Ec) (F : Nat) {h : Hp} {x0 : Nat} {x1 : Int32} {x2 : Int32} {o : Int32 × Hp} (k_x0 : hK h x0 = 0) (hE : sX0_countWorth F h x0 x1 x2 = some o) : MetI l yX0_countWorth cX0_countWorth 6 (some .int) 1 24 X [.ref x0, .int x1, .int x2] h o := by
  refine x_met (by decide) (Nat.le_of_ble_eq_true rfl) ?_
  intro p e s m below meth c ls C hl hW hZ
  have hl : lv_has ls 6 [(0, .ref x0), (1, .int x1), (2, .int x2)] := hl
  have hkm : Km h h := Km.rf h
  refine lv_aload_n C.1 C.2.1 dX0_countWorth_0 rfl (lv_at hl 0 rfl) ?_
  refine lv_aload_n C.1 C.2.1 dX0_countWorth_1 rfl (lv_at hl 0 rfl) ?_
  refine gf_X0_93 C hW k_x0 dX0_countWorth_2 ?_
  obtain ⟨o_1, eo_1, hE⟩ := cl_e hE
  refine x_kI (o := o_1) (z_runV (As := [.int (hI h x0 15)]) (rest := []) C (ct_X0_findSet l X F k_x0 eo_1) cw_X0_254 hW hZ k_x0 (by decide) rfl rfl rfl hl.1 (Nat.le_of_ble_eq_true rfl) rfl dX0_countWorth_5 ⟨Nat.le_of_ble_eq_true rfl, Nat.le_of_ble_eq_true rfl⟩ ⟨Nat.le_refl _, Nat.le_refl _⟩) hZ (fun _ _ hW km hZ => ?_)
  replace hkm := hkm.tr km
  replace k_x0 := km.at k_x0 (by decide)
  refine lv_istore_n (lv' := [(3, .int o_1.1), (0, .ref x0), (1, .int x1), (2, .int x2)]) C.1 C.2.1 dX0_countWorth_8 rfl hl (by decide) rfl (fun ls hl => ?_)
  refine lv_iconst (v := (0 : Int32)) C.1 C.2.1 dX0_countWorth_9 (by decide) ?_
  refine lv_istore (lv' := [(4, .int (0 : Int32)), (3, .int o_1.1), (0, .ref x0), (1, .int x1), (2, .int x2)]) C.1 C.2.1 dX0_countWorth_10 hl (by decide) rfl (fun ls hl => ?_)
  refine lv_iload_n C.1 C.2.1 dX0_countWorth_12 rfl (lv_at hl 1 rfl) ?_
  refine lv_iconst (v := (-1 : Int32)) C.1 C.2.1 dX0_countWorth_13 (by decide) ?_
  refine lv_icmp_ne (tgt := 21) C.1 C.2.1 dX0_countWorth_14 (by decide) (fun c_2 => ?_) (fun c_2 => ?_)
  · have hE := br_n hE c_2
    refine lv_aload_n C.1 C.2.1 dX0_countWorth_21 rfl (lv_at hl 2 rfl) ?_
    obtain ⟨r_3, er_3, hE⟩ := cl_e hE
    refine gf_X0_22 C hW k_x0 er_3 dX0_countWorth_22 (fun k_r_3 => ?_)
    refine lv_iload_n C.1 C.2.1 dX0_countWorth_25 rfl (lv_at hl 1 rfl) ?_
    obtain ⟨g_4, hE⟩ := gd_e hE
    refine y_iald C hW k_r_3 g_4 dX0_countWorth_26 ?_
    exact bX0_countWorth_27 C k_x0 hkm hW hZ _ (lv_sub hl [2, 3, 4, 1, 0] rfl) hE
  · have hE := br_p hE c_2
    refine lv_iconst (v := (0 : Int32)) C.1 C.2.1 dX0_countWorth_17 (by decide) ?_
    refine lv_goto (tgt := 27) C.1 C.2.1 dX0_countWorth_18 (by decide) ?_
    exact bX0_countWorth_27 C k_x0 hkm hW hZ _ (lv_sub hl [2, 3, 4, 1, 0] rfl) hE
