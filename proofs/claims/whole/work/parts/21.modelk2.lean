theorem dX15_addAll_0 : decode cX15_addAll 0 = .ok (.iconst 0, 1) := by decide +kernel
theorem dX15_addAll_1 : decode cX15_addAll 1 = .ok (.istore_n 1, 1) := by decide +kernel
theorem dX15_addAll_2 : decode cX15_addAll 2 = .ok (.iload_n 1, 1) := by decide +kernel
theorem dX15_addAll_3 : decode cX15_addAll 3 = .ok (.aload_n 0, 1) := by decide +kernel
theorem dX15_addAll_4 : decode cX15_addAll 4 = .ok (.getfield 751, 3) := by decide +kernel
theorem dX15_addAll_7 : decode cX15_addAll 7 = .ok (.if_icmp .ge 173, 3) := by decide +kernel
theorem dX15_addAll_10 : decode cX15_addAll 10 = .ok (.iconst 0, 1) := by decide +kernel
theorem dX15_addAll_11 : decode cX15_addAll 11 = .ok (.istore_n 2, 1) := by decide +kernel
theorem dX15_addAll_12 : decode cX15_addAll 12 = .ok (.iload_n 2, 1) := by decide +kernel
theorem dX15_addAll_13 : decode cX15_addAll 13 = .ok (.aload_n 0, 1) := by decide +kernel
theorem dX15_addAll_14 : decode cX15_addAll 14 = .ok (.getfield 333, 3) := by decide +kernel
theorem dX15_addAll_17 : decode cX15_addAll 17 = .ok (.iload_n 1, 1) := by decide +kernel
theorem dX15_addAll_18 : decode cX15_addAll 18 = .ok (.iaload, 1) := by decide +kernel
theorem dX15_addAll_19 : decode cX15_addAll 19 = .ok (.if_icmp .ge 155, 3) := by decide +kernel
theorem dX15_addAll_22 : decode cX15_addAll 22 = .ok (.aload_n 0, 1) := by decide +kernel
theorem dX15_addAll_23 : decode cX15_addAll 23 = .ok (.getfield 336, 3) := by decide +kernel
theorem dX15_addAll_26 : decode cX15_addAll 26 = .ok (.iconst 5, 1) := by decide +kernel
theorem dX15_addAll_27 : decode cX15_addAll 27 = .ok (.iload_n 1, 1) := by decide +kernel
theorem dX15_addAll_28 : decode cX15_addAll 28 = .ok (.imul, 1) := by decide +kernel
theorem dX15_addAll_29 : decode cX15_addAll 29 = .ok (.iload_n 2, 1) := by decide +kernel
theorem dX15_addAll_30 : decode cX15_addAll 30 = .ok (.iadd, 1) := by decide +kernel
theorem dX15_addAll_31 : decode cX15_addAll 31 = .ok (.iaload, 1) := by decide +kernel
theorem dX15_addAll_32 : decode cX15_addAll 32 = .ok (.istore_n 3, 1) := by decide +kernel
theorem dX15_addAll_33 : decode cX15_addAll 33 = .ok (.iload_n 3, 1) := by decide +kernel
theorem dX15_addAll_34 : decode cX15_addAll 34 = .ok (.invokestatic 492, 3) := by decide +kernel
theorem dX15_addAll_37 : decode cX15_addAll 37 = .ok (.aload_n 0, 1) := by decide +kernel
theorem dX15_addAll_38 : decode cX15_addAll 38 = .ok (.getfield 252, 3) := by decide +kernel
theorem dX15_addAll_41 : decode cX15_addAll 41 = .ok (.getfield 221, 3) := by decide +kernel
theorem dX15_addAll_44 : decode cX15_addAll 44 = .ok (.if_icmp .eq 14, 3) := by decide +kernel
theorem dX15_addAll_47 : decode cX15_addAll 47 = .ok (.aload_n 0, 1) := by decide +kernel
theorem dX15_addAll_48 : decode cX15_addAll 48 = .ok (.iload_n 1, 1) := by decide +kernel
theorem dX15_addAll_49 : decode cX15_addAll 49 = .ok (.iload_n 2, 1) := by decide +kernel
theorem dX15_addAll_50 : decode cX15_addAll 50 = .ok (.invokevirtual 757, 3) := by decide +kernel
theorem dX15_addAll_53 : decode cX15_addAll 53 = .ok (.ifCond .ne 5, 3) := by decide +kernel
theorem dX15_addAll_56 : decode cX15_addAll 56 = .ok (.iconst 0, 1) := by decide +kernel
theorem dX15_addAll_57 : decode cX15_addAll 57 = .ok (.ireturn, 1) := by decide +kernel
theorem dX15_addAll_58 : decode cX15_addAll 58 = .ok (.iconst 0, 1) := by decide +kernel
theorem dX15_addAll_59 : decode cX15_addAll 59 = .ok (.istore 4, 2) := by decide +kernel
theorem dX15_addAll_61 : decode cX15_addAll 61 = .ok (.iload 4, 2) := by decide +kernel
theorem dX15_addAll_63 : decode cX15_addAll 63 = .ok (.aload_n 0, 1) := by decide +kernel
theorem dX15_addAll_64 : decode cX15_addAll 64 = .ok (.getfield 252, 3) := by decide +kernel
theorem dX15_addAll_67 : decode cX15_addAll 67 = .ok (.getfield 215, 3) := by decide +kernel
theorem dX15_addAll_70 : decode cX15_addAll 70 = .ok (.iload_n 3, 1) := by decide +kernel
theorem dX15_addAll_71 : decode cX15_addAll 71 = .ok (.invokestatic 492, 3) := by decide +kernel
theorem dX15_addAll_74 : decode cX15_addAll 74 = .ok (.iaload, 1) := by decide +kernel
theorem dX15_addAll_75 : decode cX15_addAll 75 = .ok (.if_icmp .ge 93, 3) := by decide +kernel
theorem dX15_addAll_78 : decode cX15_addAll 78 = .ok (.iconst 0, 1) := by decide +kernel
theorem dX15_addAll_79 : decode cX15_addAll 79 = .ok (.istore 5, 2) := by decide +kernel
theorem dX15_addAll_81 : decode cX15_addAll 81 = .ok (.iload 5, 2) := by decide +kernel
theorem dX15_addAll_83 : decode cX15_addAll 83 = .ok (.aload_n 0, 1) := by decide +kernel
theorem dX15_addAll_84 : decode cX15_addAll 84 = .ok (.getfield 333, 3) := by decide +kernel
theorem dX15_addAll_87 : decode cX15_addAll 87 = .ok (.iload_n 1, 1) := by decide +kernel
theorem dX15_addAll_88 : decode cX15_addAll 88 = .ok (.iaload, 1) := by decide +kernel
theorem dX15_addAll_89 : decode cX15_addAll 89 = .ok (.if_icmp .ge 27, 3) := by decide +kernel
theorem dX15_addAll_92 : decode cX15_addAll 92 = .ok (.aload_n 0, 1) := by decide +kernel
theorem dX15_addAll_93 : decode cX15_addAll 93 = .ok (.getfield 359, 3) := by decide +kernel
theorem dX15_addAll_96 : decode cX15_addAll 96 = .ok (.iload 5, 2) := by decide +kernel
theorem dX15_addAll_98 : decode cX15_addAll 98 = .ok (.aload_n 0, 1) := by decide +kernel
theorem dX15_addAll_99 : decode cX15_addAll 99 = .ok (.getfield 336, 3) := by decide +kernel
theorem dX15_addAll_102 : decode cX15_addAll 102 = .ok (.iconst 5, 1) := by decide +kernel
theorem dX15_addAll_103 : decode cX15_addAll 103 = .ok (.iload_n 1, 1) := by decide +kernel
theorem dX15_addAll_104 : decode cX15_addAll 104 = .ok (.imul, 1) := by decide +kernel
theorem dX15_addAll_105 : decode cX15_addAll 105 = .ok (.iload 5, 2) := by decide +kernel
theorem dX15_addAll_107 : decode cX15_addAll 107 = .ok (.iadd, 1) := by decide +kernel
theorem dX15_addAll_108 : decode cX15_addAll 108 = .ok (.iaload, 1) := by decide +kernel
theorem dX15_addAll_109 : decode cX15_addAll 109 = .ok (.iastore, 1) := by decide +kernel
theorem dX15_addAll_110 : decode cX15_addAll 110 = .ok (.iinc 5 1, 3) := by decide +kernel
theorem dX15_addAll_113 : decode cX15_addAll 113 = .ok (.goto (-32), 3) := by decide +kernel
theorem dX15_addAll_116 : decode cX15_addAll 116 = .ok (.aload_n 0, 1) := by decide +kernel
theorem dX15_addAll_117 : decode cX15_addAll 117 = .ok (.getfield 359, 3) := by decide +kernel
theorem dX15_addAll_120 : decode cX15_addAll 120 = .ok (.iload_n 2, 1) := by decide +kernel
theorem dX15_addAll_121 : decode cX15_addAll 121 = .ok (.aload_n 0, 1) := by decide +kernel
theorem dX15_addAll_122 : decode cX15_addAll 122 = .ok (.getfield 252, 3) := by decide +kernel
theorem dX15_addAll_125 : decode cX15_addAll 125 = .ok (.getfield 223, 3) := by decide +kernel
theorem dX15_addAll_128 : decode cX15_addAll 128 = .ok (.bipush 6, 2) := by decide +kernel
theorem dX15_addAll_130 : decode cX15_addAll 130 = .ok (.iload_n 3, 1) := by decide +kernel
theorem dX15_addAll_131 : decode cX15_addAll 131 = .ok (.invokestatic 492, 3) := by decide +kernel
theorem dX15_addAll_134 : decode cX15_addAll 134 = .ok (.imul, 1) := by decide +kernel
theorem dX15_addAll_135 : decode cX15_addAll 135 = .ok (.iload 4, 2) := by decide +kernel
theorem dX15_addAll_137 : decode cX15_addAll 137 = .ok (.iadd, 1) := by decide +kernel
theorem dX15_addAll_138 : decode cX15_addAll 138 = .ok (.iaload, 1) := by decide +kernel
theorem dX15_addAll_139 : decode cX15_addAll 139 = .ok (.iload_n 3, 1) := by decide +kernel
theorem dX15_addAll_140 : decode cX15_addAll 140 = .ok (.invokestatic 489, 3) := by decide +kernel
theorem dX15_addAll_143 : decode cX15_addAll 143 = .ok (.invokestatic 398, 3) := by decide +kernel
theorem dX15_addAll_146 : decode cX15_addAll 146 = .ok (.iastore, 1) := by decide +kernel
theorem dX15_addAll_147 : decode cX15_addAll 147 = .ok (.aload_n 0, 1) := by decide +kernel
theorem dX15_addAll_148 : decode cX15_addAll 148 = .ok (.aload_n 0, 1) := by decide +kernel
theorem dX15_addAll_149 : decode cX15_addAll 149 = .ok (.getfield 333, 3) := by decide +kernel
theorem dX15_addAll_152 : decode cX15_addAll 152 = .ok (.iload_n 1, 1) := by decide +kernel
theorem dX15_addAll_153 : decode cX15_addAll 153 = .ok (.iaload, 1) := by decide +kernel
theorem dX15_addAll_154 : decode cX15_addAll 154 = .ok (.invokevirtual 754, 3) := by decide +kernel
theorem dX15_addAll_157 : decode cX15_addAll 157 = .ok (.ifCond .ne 5, 3) := by decide +kernel
theorem dX15_addAll_160 : decode cX15_addAll 160 = .ok (.iconst 0, 1) := by decide +kernel
theorem dX15_addAll_161 : decode cX15_addAll 161 = .ok (.ireturn, 1) := by decide +kernel
theorem dX15_addAll_162 : decode cX15_addAll 162 = .ok (.iinc 4 1, 3) := by decide +kernel
theorem dX15_addAll_165 : decode cX15_addAll 165 = .ok (.goto (-104), 3) := by decide +kernel
theorem dX15_addAll_168 : decode cX15_addAll 168 = .ok (.iinc 2 1, 3) := by decide +kernel
theorem dX15_addAll_171 : decode cX15_addAll 171 = .ok (.goto (-159), 3) := by decide +kernel
theorem dX15_addAll_174 : decode cX15_addAll 174 = .ok (.iinc 1 1, 3) := by decide +kernel
theorem dX15_addAll_177 : decode cX15_addAll 177 = .ok (.goto (-175), 3) := by decide +kernel
theorem dX15_addAll_180 : decode cX15_addAll 180 = .ok (.iconst 1, 1) := by decide +kernel
theorem dX15_addAll_181 : decode cX15_addAll 181 = .ok (.ireturn, 1) := by decide +kernel
def sX15_addAll_81 (F : Nat) (k_2 : Hp → Nat → Int32 → Option (Int32 × Hp)) (k_12 : Hp → Nat → Int32 → Int32 → Option (Int32 × Hp)) (k_61 : Hp → Nat → Int32 → Int32 → Int32 → Int32 → Option (Int32 × Hp)) : Nat → Hp → Nat → Int32 → Int32 → Int32 → Int32 → Int32 → Option (Int32 × Hp)
  | 0, _, _, _, _, _, _, _ => none
  | f + 1, h, x0, x1, x2, x3, x4, x5 => cl (hR h x0 46) fun r_1 => gd (inB x1 (hN h r_1)) <| br ((hI h r_1 x1.toNatClampNeg) ≤ x5) (cl (hR h x0 57) fun r_4 => cl (hR h x0 4) fun r_5 => cl (hR h r_5 13) fun r_6 => cl (sX15_manOf h x3) fun o_7 => gd (inB (((6 : Int32) * o_7.1) + x4) (hN o_7.2 r_6)) <| cl (sX15_sideOf o_7.2 x3) fun o_9 => cl (sX15_valueOf o_9.2 (hI o_7.2 r_6 (((6 : Int32) * o_7.1) + x4).toNatClampNeg) o_9.1) fun o_10 => gd (inB x2 (hN o_10.2 r_4)) <| nm (wI o_10.2 r_4 x2.toNatClampNeg o_10.1) fun h_12 => cl (hR h_12 x0 46) fun r_13 => gd (inB x1 (hN h_12 r_13)) <| cl (sX15_addSet F h_12 x0 (hI h_12 r_13 x1.toNatClampNeg)) fun o_15 => br (o_15.1 = 0) (some ((0 : Int32), o_15.2)) (nm (x4 + (1 : Int32)) fun v_17 => k_61 o_15.2 x0 x1 x2 x3 v_17)) (cl (hR h x0 57) fun r_18 => cl (hR h x0 47) fun r_19 => gd (inB (((5 : Int32) * x1) + x5) (hN h r_19)) <| gd (inB x5 (hN h r_18)) <| nm (wI h r_18 x5.toNatClampNeg (hI h r_19 (((5 : Int32) * x1) + x5).toNatClampNeg)) fun h_22 => nm (x5 + (1 : Int32)) fun v_23 => sX15_addAll_81 F k_2 k_12 k_61 f h_22 x0 x1 x2 x3 x4 v_23)
def sX15_addAll_61 (F : Nat) (k_2 : Hp → Nat → Int32 → Option (Int32 × Hp)) (k_12 : Hp → Nat → Int32 → Int32 → Option (Int32 × Hp)) : Nat → Hp → Nat → Int32 → Int32 → Int32 → Int32 → Option (Int32 × Hp)
  | 0, _, _, _, _, _, _ => none
  | f + 1, h, x0, x1, x2, x3, x4 => cl (hR h x0 4) fun r_1 => cl (hR h r_1 14) fun r_2 => cl (sX15_manOf h x3) fun o_3 => gd (inB o_3.1 (hN o_3.2 r_2)) <| br ((hI o_3.2 r_2 o_3.1.toNatClampNeg) ≤ x4) (nm (x2 + (1 : Int32)) fun v_6 => k_12 o_3.2 x0 x1 v_6) (sX15_addAll_81 F k_2 k_12 (sX15_addAll_61 F k_2 k_12 f) F o_3.2 x0 x1 x2 x3 x4 (0 : Int32))
def sX15_addAll_58 (F : Nat) (k_2 : Hp → Nat → Int32 → Option (Int32 × Hp)) (k_12 : Hp → Nat → Int32 → Int32 → Option (Int32 × Hp)) (h : Hp) (x0 : Nat) (x1 : Int32) (x2 : Int32) (x3 : Int32) : Option (Int32 × Hp) := sX15_addAll_61 F k_2 k_12 F h x0 x1 x2 x3 (0 : Int32)
def sX15_addAll_12 (F : Nat) (k_2 : Hp → Nat → Int32 → Option (Int32 × Hp)) : Nat → Hp → Nat → Int32 → Int32 → Option (Int32 × Hp)
  | 0, _, _, _, _ => none
  | f + 1, h, x0, x1, x2 => cl (hR h x0 46) fun r_1 => gd (inB x1 (hN h r_1)) <| br ((hI h r_1 x1.toNatClampNeg) ≤ x2) (nm (x1 + (1 : Int32)) fun v_4 => k_2 h x0 v_4) (cl (hR h x0 47) fun r_5 => gd (inB (((5 : Int32) * x1) + x2) (hN h r_5)) <| nm (hI h r_5 (((5 : Int32) * x1) + x2).toNatClampNeg) fun v_7 => cl (sX15_manOf h v_7) fun o_8 => cl (hR o_8.2 x0 4) fun r_9 => br (o_8.1 = (hI o_8.2 r_9 10)) (sX15_addAll_58 F k_2 (sX15_addAll_12 F k_2 f) o_8.2 x0 x1 x2 v_7) (cl (sX15_copyWithout F o_8.2 x0 x1 x2) fun o_11 => br (o_11.1 = 0) (some ((0 : Int32), o_11.2)) (sX15_addAll_58 F k_2 (sX15_addAll_12 F k_2 f) o_11.2 x0 x1 x2 v_7)))
def sX15_addAll_2 (F : Nat) : Nat → Hp → Nat → Int32 → Option (Int32 × Hp)
  | 0, _, _, _ => none
  | f + 1, h, x0, x1 => br ((hI h x0 49) ≤ x1) (some ((1 : Int32), h)) (sX15_addAll_12 F (sX15_addAll_2 F f) F h x0 x1 (0 : Int32))
def sX15_addAll (F : Nat) (h : Hp) (x0 : Nat) : Option (Int32 × Hp) := sX15_addAll_2 F F h x0 (0 : Int32)
set_option maxRecDepth 20000 in
theorem moX15_addAll_81 {o : Int32 × Hp} {k_2 : Hp → Nat → Int32 → Option (Int32 × Hp)} {k_12 : Hp → Nat → Int32 → Int32 → Option (Int32 × Hp)} {k_61 : Hp → Nat → Int32 → Int32 → Int32 → Int32 → Option (Int32 × Hp)} {F : Nat} (mk_2 : ∀ (h : Hp) (x0 : Nat) (x1 : Int32), k_2 h x0 x1 = some o → Le h o.2) (mk_12 : ∀ (h : Hp) (x0 : Nat) (x1 : Int32) (x2 : Int32), k_12 h x0 x1 x2 = some o → Le h o.2) (mk_61 : ∀ (h : Hp) (x0 : Nat) (x1 : Int32) (x2 : Int32) (x3 : Int32) (x4 : Int32), k_61 h x0 x1 x2 x3 x4 = some o → Le h o.2) : ∀ (f : Nat) {h : Hp} {x0 : Nat} {x1 : Int32} {x2 : Int32} {x3 : Int32} {x4 : Int32} {x5 : Int32}, sX15_addAll_81 F k_2 k_12 k_61 f h x0 x1 x2 x3 x4 x5 = some o → Le h o.2 := by
  intro f
  induction f with
  | zero =>
    intro h x0 x1 x2 x3 x4 x5 hE
    rw [sX15_addAll_81] at hE
    cases hE
  | succ f ih =>
    intro h x0 x1 x2 x3 x4 x5 hE
    rw [sX15_addAll_81] at hE
    have mk_81 : ∀ (h : Hp) (x0 : Nat) (x1 : Int32) (x2 : Int32) (x3 : Int32) (x4 : Int32) (x5 : Int32), sX15_addAll_81 F k_2 k_12 k_61 f h x0 x1 x2 x3 x4 x5 = some o → Le h o.2 := fun h x0 x1 x2 x3 x4 x5 hE => ih hE
    obtain ⟨r_1, er_1, hE⟩ := cl_e hE
    obtain ⟨g_2, hE⟩ := gd_e hE
    rcases br_e hE with ⟨_, hE⟩ | ⟨_, hE⟩
    · obtain ⟨r_4, er_4, hE⟩ := cl_e hE
      obtain ⟨r_5, er_5, hE⟩ := cl_e hE
      obtain ⟨r_6, er_6, hE⟩ := cl_e hE
      obtain ⟨o_7, eo_7, hE⟩ := cl_e hE
      refine (moX15_manOf eo_7).tr ?_
      obtain ⟨g_8, hE⟩ := gd_e hE
      obtain ⟨o_9, eo_9, hE⟩ := cl_e hE
      refine (moX15_sideOf eo_9).tr ?_
      obtain ⟨o_10, eo_10, hE⟩ := cl_e hE
      refine (moX15_valueOf eo_10).tr ?_
      obtain ⟨g_11, hE⟩ := gd_e hE
      obtain ⟨h_12, eh_12, hE⟩ := nm_e2 hE
      refine (le_I eh_12).tr ?_
      obtain ⟨r_13, er_13, hE⟩ := cl_e hE
      obtain ⟨g_14, hE⟩ := gd_e hE
      obtain ⟨o_15, eo_15, hE⟩ := cl_e hE
      refine (moX15_addSet eo_15).tr ?_
      rcases br_e hE with ⟨_, hE⟩ | ⟨_, hE⟩
      · first | exact le_some2 hE | exact le_some1 hE
      · obtain ⟨v_17, ev_17, hE⟩ := nm_e2 hE
        exact mk_61 _ _ _ _ _ _ hE
    · obtain ⟨r_18, er_18, hE⟩ := cl_e hE
      obtain ⟨r_19, er_19, hE⟩ := cl_e hE
      obtain ⟨g_20, hE⟩ := gd_e hE
      obtain ⟨g_21, hE⟩ := gd_e hE
      obtain ⟨h_22, eh_22, hE⟩ := nm_e2 hE
      refine (le_I eh_22).tr ?_
      obtain ⟨v_23, ev_23, hE⟩ := nm_e2 hE
      exact mk_81 _ _ _ _ _ _ _ hE
set_option maxRecDepth 20000 in
theorem moX15_addAll_61 {o : Int32 × Hp} {k_2 : Hp → Nat → Int32 → Option (Int32 × Hp)} {k_12 : Hp → Nat → Int32 → Int32 → Option (Int32 × Hp)} {F : Nat} (mk_2 : ∀ (h : Hp) (x0 : Nat) (x1 : Int32), k_2 h x0 x1 = some o → Le h o.2) (mk_12 : ∀ (h : Hp) (x0 : Nat) (x1 : Int32) (x2 : Int32), k_12 h x0 x1 x2 = some o → Le h o.2) : ∀ (f : Nat) {h : Hp} {x0 : Nat} {x1 : Int32} {x2 : Int32} {x3 : Int32} {x4 : Int32}, sX15_addAll_61 F k_2 k_12 f h x0 x1 x2 x3 x4 = some o → Le h o.2 := by
  intro f
  induction f with
  | zero =>
    intro h x0 x1 x2 x3 x4 hE
    rw [sX15_addAll_61] at hE
    cases hE
  | succ f ih =>
    intro h x0 x1 x2 x3 x4 hE
    rw [sX15_addAll_61] at hE
    have mk_61 : ∀ (h : Hp) (x0 : Nat) (x1 : Int32) (x2 : Int32) (x3 : Int32) (x4 : Int32), sX15_addAll_61 F k_2 k_12 f h x0 x1 x2 x3 x4 = some o → Le h o.2 := fun h x0 x1 x2 x3 x4 hE => ih hE
    obtain ⟨r_1, er_1, hE⟩ := cl_e hE
    obtain ⟨r_2, er_2, hE⟩ := cl_e hE
    obtain ⟨o_3, eo_3, hE⟩ := cl_e hE
    refine (moX15_manOf eo_3).tr ?_
    obtain ⟨g_4, hE⟩ := gd_e hE
    rcases br_e hE with ⟨_, hE⟩ | ⟨_, hE⟩
    · obtain ⟨v_6, ev_6, hE⟩ := nm_e2 hE
      exact mk_12 _ _ _ _ hE
    · exact moX15_addAll_81 mk_2 mk_12 mk_61 _ hE
set_option maxRecDepth 20000 in
theorem moX15_addAll_58 {o : Int32 × Hp} {k_2 : Hp → Nat → Int32 → Option (Int32 × Hp)} {k_12 : Hp → Nat → Int32 → Int32 → Option (Int32 × Hp)} {F : Nat} (mk_2 : ∀ (h : Hp) (x0 : Nat) (x1 : Int32), k_2 h x0 x1 = some o → Le h o.2) (mk_12 : ∀ (h : Hp) (x0 : Nat) (x1 : Int32) (x2 : Int32), k_12 h x0 x1 x2 = some o → Le h o.2) {h : Hp} {x0 : Nat} {x1 : Int32} {x2 : Int32} {x3 : Int32} (hE : sX15_addAll_58 F k_2 k_12 h x0 x1 x2 x3 = some o) : Le h o.2 := by
  exact moX15_addAll_61 mk_2 mk_12 _ hE
set_option maxRecDepth 20000 in
theorem moX15_addAll_12 {o : Int32 × Hp} {k_2 : Hp → Nat → Int32 → Option (Int32 × Hp)} {F : Nat} (mk_2 : ∀ (h : Hp) (x0 : Nat) (x1 : Int32), k_2 h x0 x1 = some o → Le h o.2) : ∀ (f : Nat) {h : Hp} {x0 : Nat} {x1 : Int32} {x2 : Int32}, sX15_addAll_12 F k_2 f h x0 x1 x2 = some o → Le h o.2 := by
  intro f
  induction f with
  | zero =>
    intro h x0 x1 x2 hE
    rw [sX15_addAll_12] at hE
    cases hE
  | succ f ih =>
    intro h x0 x1 x2 hE
    rw [sX15_addAll_12] at hE
    have mk_12 : ∀ (h : Hp) (x0 : Nat) (x1 : Int32) (x2 : Int32), sX15_addAll_12 F k_2 f h x0 x1 x2 = some o → Le h o.2 := fun h x0 x1 x2 hE => ih hE
    obtain ⟨r_1, er_1, hE⟩ := cl_e hE
    obtain ⟨g_2, hE⟩ := gd_e hE
    rcases br_e hE with ⟨_, hE⟩ | ⟨_, hE⟩
    · obtain ⟨v_4, ev_4, hE⟩ := nm_e2 hE
      exact mk_2 _ _ _ hE
    · obtain ⟨r_5, er_5, hE⟩ := cl_e hE
      obtain ⟨g_6, hE⟩ := gd_e hE
      obtain ⟨v_7, ev_7, hE⟩ := nm_e2 hE
      obtain ⟨o_8, eo_8, hE⟩ := cl_e hE
      refine (moX15_manOf eo_8).tr ?_
      obtain ⟨r_9, er_9, hE⟩ := cl_e hE
      rcases br_e hE with ⟨_, hE⟩ | ⟨_, hE⟩
      · exact moX15_addAll_58 mk_2 mk_12 hE
      · obtain ⟨o_11, eo_11, hE⟩ := cl_e hE
        refine (moX15_copyWithout eo_11).tr ?_
        rcases br_e hE with ⟨_, hE⟩ | ⟨_, hE⟩
        · first | exact le_some2 hE | exact le_some1 hE
        · exact moX15_addAll_58 mk_2 mk_12 hE
set_option maxRecDepth 20000 in
theorem moX15_addAll_2 {o : Int32 × Hp} {F : Nat} : ∀ (f : Nat) {h : Hp} {x0 : Nat} {x1 : Int32}, sX15_addAll_2 F f h x0 x1 = some o → Le h o.2 := by
  intro f
  induction f with
  | zero =>
    intro h x0 x1 hE
    rw [sX15_addAll_2] at hE
    cases hE
  | succ f ih =>
    intro h x0 x1 hE
    rw [sX15_addAll_2] at hE
    have mk_2 : ∀ (h : Hp) (x0 : Nat) (x1 : Int32), sX15_addAll_2 F f h x0 x1 = some o → Le h o.2 := fun h x0 x1 hE => ih hE
    rcases br_e hE with ⟨_, hE⟩ | ⟨_, hE⟩
    · first | exact le_some2 hE | exact le_some1 hE
    · exact moX15_addAll_12 mk_2 _ hE
set_option maxRecDepth 20000 in
theorem moX15_addAll {o : Int32 × Hp} {F : Nat} {h : Hp} {x0 : Nat} (hE : sX15_addAll F h x0 = some o) : Le h o.2 := by
  exact moX15_addAll_2 _ hE
set_option maxRecDepth 20000 in
theorem bX15_addAll_81 {p : Program} {l : Launch} {e : Env} {s : State} {m : MethodId} {args : Array Value} {below : List Frame} {meth : Method} {c : Code} {X : Ec} {h0 : Hp} {o : Int32 × Hp} {k_2 : Hp → Nat → Int32 → Option (Int32 × Hp)} {k_12 : Hp → Nat → Int32 → Int32 → Option (Int32 × Hp)} {k_61 : Hp → Nat → Int32 → Int32 → Int32 → Int32 → Option (Int32 × Hp)} {F : Nat} (C : Cx X p s m args meth c RX15 cX15_addAll 6 (some .boolean) "addAll") (hk_2 : ∀ (h : Hp) (x0 : Nat) (x1 : Int32) (H : Heap) (locs : List Loc), hK h x0 = 15 → Km h0 h → Wx X h H → va_S (aA (eB X)) s.heap H locs → ∀ (ls : Array Slot), lv_has ls 6 [(0, .ref x0), (1, .int x1)] → k_2 h x0 x1 = some o → W p l e (rm 4 93) s m args below meth c H locs 0 0 (MQ below (QI X h0 o.1 o.2) args s 0 0 (aA (eB X))) (F0 m 2 ls [])) (hk_12 : ∀ (h : Hp) (x0 : Nat) (x1 : Int32) (x2 : Int32) (H : Heap) (locs : List Loc), hK h x0 = 15 → Km h0 h → Wx X h H → va_S (aA (eB X)) s.heap H locs → ∀ (ls : Array Slot), lv_has ls 6 [(0, .ref x0), (1, .int x1), (2, .int x2)] → k_12 h x0 x1 x2 = some o → W p l e (rm 4 93) s m args below meth c H locs 0 0 (MQ below (QI X h0 o.1 o.2) args s 0 0 (aA (eB X))) (F0 m 12 ls [])) (hk_61 : ∀ (h : Hp) (x0 : Nat) (x1 : Int32) (x2 : Int32) (x3 : Int32) (x4 : Int32) (H : Heap) (locs : List Loc), hK h x0 = 15 → Km h0 h → Wx X h H → va_S (aA (eB X)) s.heap H locs → ∀ (ls : Array Slot), lv_has ls 6 [(0, .ref x0), (1, .int x1), (2, .int x2), (3, .int x3), (4, .int x4)] → k_61 h x0 x1 x2 x3 x4 = some o → W p l e (rm 4 93) s m args below meth c H locs 0 0 (MQ below (QI X h0 o.1 o.2) args s 0 0 (aA (eB X))) (F0 m 61 ls [])) : ∀ (f : Nat) {h : Hp} {x0 : Nat} {x1 : Int32} {x2 : Int32} {x3 : Int32} {x4 : Int32} {x5 : Int32} {H : Heap} {locs : List Loc} (k_x0 : hK h x0 = 15), Km h0 h → Wx X h H → va_S (aA (eB X)) s.heap H locs → ∀ (ls : Array Slot), lv_has ls 6 [(0, .ref x0), (1, .int x1), (2, .int x2), (3, .int x3), (4, .int x4), (5, .int x5)] → sX15_addAll_81 F k_2 k_12 k_61 f h x0 x1 x2 x3 x4 x5 = some o → W p l e (rm 4 93) s m args below meth c H locs 0 0 (MQ below (QI X h0 o.1 o.2) args s 0 0 (aA (eB X))) (F0 m 81 ls []) := by
  intro f
  induction f with
  | zero =>
    intro h x0 x1 x2 x3 x4 x5 H locs k_x0 hkm hW hZ ls hl hE
    rw [sX15_addAll_81] at hE
    cases hE
  | succ f ih =>
    intro h x0 x1 x2 x3 x4 x5 H locs k_x0 hkm hW hZ ls hl hE
    rw [sX15_addAll_81] at hE
    have hk_81 : ∀ (h : Hp) (x0 : Nat) (x1 : Int32) (x2 : Int32) (x3 : Int32) (x4 : Int32) (x5 : Int32) (H : Heap) (locs : List Loc), hK h x0 = 15 → Km h0 h → Wx X h H → va_S (aA (eB X)) s.heap H locs → ∀ (ls : Array Slot), lv_has ls 6 [(0, .ref x0), (1, .int x1), (2, .int x2), (3, .int x3), (4, .int x4), (5, .int x5)] → sX15_addAll_81 F k_2 k_12 k_61 f h x0 x1 x2 x3 x4 x5 = some o → W p l e (rm 4 93) s m args below meth c H locs 0 0 (MQ below (QI X h0 o.1 o.2) args s 0 0 (aA (eB X))) (F0 m 81 ls []) := fun h x0 x1 x2 x3 x4 x5 H locs k_x0 a b c ls hl hE => ih k_x0 a b c ls hl hE
    refine lv_iload C.1 C.2.1 dX15_addAll_81 (lv_at hl 5 rfl) ?_
    refine lv_aload_n C.1 C.2.1 dX15_addAll_83 rfl (lv_at hl 0 rfl) ?_
    obtain ⟨r_1, er_1, hE⟩ := cl_e hE
    refine gf_X15_333 C hW k_x0 er_1 dX15_addAll_84 (fun k_r_1 => ?_)
    refine lv_iload_n C.1 C.2.1 dX15_addAll_87 rfl (lv_at hl 1 rfl) ?_
    obtain ⟨g_2, hE⟩ := gd_e hE
    refine y_iald C hW k_r_1 g_2 dX15_addAll_88 ?_
    refine lv_icmp_ge (tgt := 116) C.1 C.2.1 dX15_addAll_89 (by decide) (fun c_3 => ?_) (fun c_3 => ?_)
    · have hE := br_p hE c_3
      refine lv_aload_n C.1 C.2.1 dX15_addAll_116 rfl (lv_at hl 0 rfl) ?_
      obtain ⟨r_4, er_4, hE⟩ := cl_e hE
      refine gf_X15_359 C hW k_x0 er_4 dX15_addAll_117 (fun k_r_4 => ?_)
      refine lv_iload_n C.1 C.2.1 dX15_addAll_120 rfl (lv_at hl 2 rfl) ?_
      refine lv_aload_n C.1 C.2.1 dX15_addAll_121 rfl (lv_at hl 0 rfl) ?_
      obtain ⟨r_5, er_5, hE⟩ := cl_e hE
      refine gf_X15_252 C hW k_x0 er_5 dX15_addAll_122 (fun k_r_5 => ?_)
      obtain ⟨r_6, er_6, hE⟩ := cl_e hE
      refine gf_X15_223 C hW k_r_5 er_6 dX15_addAll_125 (fun k_r_6 => ?_)
      refine lv_bipush (v := (6 : Int32)) C.1 C.2.1 dX15_addAll_128 (by decide) ?_
      refine lv_iload_n C.1 C.2.1 dX15_addAll_130 rfl (lv_at hl 3 rfl) ?_
      obtain ⟨o_7, eo_7, hE⟩ := cl_e hE
      refine x_kI (o := o_7) (z_runS (As := [.int x3]) (rest := [.int (6 : Int32), .ref r_6, .int x2, .ref r_4]) C (ct_X15_manOf l X eo_7) cw_X15_492 hW hZ rfl hl.1 (Nat.le_of_ble_eq_true rfl) rfl dX15_addAll_131 ⟨Nat.le_of_ble_eq_true rfl, Nat.le_of_ble_eq_true rfl⟩ ⟨Nat.le_refl _, Nat.le_refl _⟩) hZ (fun _ _ hW km hZ => ?_)
      replace hkm := hkm.tr km
      replace k_x0 := km.at k_x0 (by decide)
      replace k_r_6 := km.at k_r_6 (by decide)
      replace k_r_4 := km.at k_r_4 (by decide)
      refine lv_imul C.1 C.2.1 dX15_addAll_134 ?_
      refine lv_iload C.1 C.2.1 dX15_addAll_135 (lv_at hl 4 rfl) ?_
      refine lv_iadd C.1 C.2.1 dX15_addAll_137 ?_
      obtain ⟨g_8, hE⟩ := gd_e hE
      refine y_iald C hW k_r_6 g_8 dX15_addAll_138 ?_
      refine lv_iload_n C.1 C.2.1 dX15_addAll_139 rfl (lv_at hl 3 rfl) ?_
      obtain ⟨o_9, eo_9, hE⟩ := cl_e hE
      refine x_kI (o := o_9) (z_runS (As := [.int x3]) (rest := [.int (hI o_7.2 r_6 (((6 : Int32) * o_7.1) + x4).toNatClampNeg), .int x2, .ref r_4]) C (ct_X15_sideOf l X eo_9) cw_X15_489 hW hZ rfl hl.1 (Nat.le_of_ble_eq_true rfl) rfl dX15_addAll_140 ⟨Nat.le_of_ble_eq_true rfl, Nat.le_of_ble_eq_true rfl⟩ ⟨Nat.le_refl _, Nat.le_refl _⟩) hZ (fun _ _ hW km hZ => ?_)
      replace hkm := hkm.tr km
      replace k_x0 := km.at k_x0 (by decide)
      replace k_r_4 := km.at k_r_4 (by decide)
      obtain ⟨o_10, eo_10, hE⟩ := cl_e hE
      refine x_kI (o := o_10) (z_runS (As := [.int (hI o_7.2 r_6 (((6 : Int32) * o_7.1) + x4).toNatClampNeg), .int o_9.1]) (rest := [.int x2, .ref r_4]) C (ct_X15_valueOf l X eo_10) cw_X15_398 hW hZ rfl hl.1 (Nat.le_of_ble_eq_true rfl) rfl dX15_addAll_143 ⟨Nat.le_of_ble_eq_true rfl, Nat.le_of_ble_eq_true rfl⟩ ⟨Nat.le_refl _, Nat.le_refl _⟩) hZ (fun _ _ hW km hZ => ?_)
      replace hkm := hkm.tr km
      replace k_x0 := km.at k_x0 (by decide)
      replace k_r_4 := km.at k_r_4 (by decide)
      obtain ⟨g_11, hE⟩ := gd_e hE
      obtain ⟨h_12, eh_12, hE⟩ := nm_e2 hE
      refine y_iast C hW hZ k_r_4 g_11 eh_12 dX15_addAll_146 (fun _ _ hW km hZ => ?_)
      replace hkm := hkm.tr km
      replace k_x0 := km.at k_x0 (by decide)
      refine lv_aload_n C.1 C.2.1 dX15_addAll_147 rfl (lv_at hl 0 rfl) ?_
      refine lv_aload_n C.1 C.2.1 dX15_addAll_148 rfl (lv_at hl 0 rfl) ?_
      obtain ⟨r_13, er_13, hE⟩ := cl_e hE
      refine gf_X15_333 C hW k_x0 er_13 dX15_addAll_149 (fun k_r_13 => ?_)
      refine lv_iload_n C.1 C.2.1 dX15_addAll_152 rfl (lv_at hl 1 rfl) ?_
      obtain ⟨g_14, hE⟩ := gd_e hE
      refine y_iald C hW k_r_13 g_14 dX15_addAll_153 ?_
      obtain ⟨o_15, eo_15, hE⟩ := cl_e hE
      refine x_kI (o := o_15) (z_runV (As := [.int (hI h_12 r_13 x1.toNatClampNeg)]) (rest := []) C (ct_X15_addSet l X F k_x0 eo_15) cw_X15_754 hW hZ k_x0 (by decide) rfl rfl rfl hl.1 (Nat.le_of_ble_eq_true rfl) rfl dX15_addAll_154 ⟨Nat.le_of_ble_eq_true rfl, Nat.le_of_ble_eq_true rfl⟩ ⟨Nat.le_refl _, Nat.le_refl _⟩) hZ (fun _ _ hW km hZ => ?_)
      replace hkm := hkm.tr km
      replace k_x0 := km.at k_x0 (by decide)
      refine lv_if_ne (tgt := 162) C.1 C.2.1 dX15_addAll_157 (by decide) (fun c_16 => ?_) (fun c_16 => ?_)
      · have hE := br_n hE c_16
        obtain ⟨v_17, ev_17, hE⟩ := nm_e2 hE
        refine lv_iinc (v := v_17) (lv' := [(4, .int v_17), (0, .ref x0), (1, .int x1), (2, .int x2), (3, .int x3), (5, .int x5)]) C.1 C.2.1 dX15_addAll_162 hl (k := 4) rfl (by rw [ev_17]; rfl) (by decide) rfl (fun ls hl => ?_)
        refine lv_goto (tgt := 61) C.1 C.2.1 dX15_addAll_165 (by decide) ?_
        exact hk_61 _ _ _ _ _ _ _ _ k_x0 hkm hW hZ _ (lv_sub hl [1, 2, 3, 4, 0] rfl) hE
      · have hE := br_p hE c_16
        refine lv_iconst (v := (0 : Int32)) C.1 C.2.1 dX15_addAll_160 (by decide) ?_
        exact x_iret C rfl (by decide) hW hZ hkm hE dX15_addAll_161
    · have hE := br_n hE c_3
      refine lv_aload_n C.1 C.2.1 dX15_addAll_92 rfl (lv_at hl 0 rfl) ?_
      obtain ⟨r_18, er_18, hE⟩ := cl_e hE
      refine gf_X15_359 C hW k_x0 er_18 dX15_addAll_93 (fun k_r_18 => ?_)
      refine lv_iload C.1 C.2.1 dX15_addAll_96 (lv_at hl 5 rfl) ?_
      refine lv_aload_n C.1 C.2.1 dX15_addAll_98 rfl (lv_at hl 0 rfl) ?_
      obtain ⟨r_19, er_19, hE⟩ := cl_e hE
      refine gf_X15_336 C hW k_x0 er_19 dX15_addAll_99 (fun k_r_19 => ?_)
      refine lv_iconst (v := (5 : Int32)) C.1 C.2.1 dX15_addAll_102 (by decide) ?_
      refine lv_iload_n C.1 C.2.1 dX15_addAll_103 rfl (lv_at hl 1 rfl) ?_
      refine lv_imul C.1 C.2.1 dX15_addAll_104 ?_
      refine lv_iload C.1 C.2.1 dX15_addAll_105 (lv_at hl 5 rfl) ?_
      refine lv_iadd C.1 C.2.1 dX15_addAll_107 ?_
      obtain ⟨g_20, hE⟩ := gd_e hE
      refine y_iald C hW k_r_19 g_20 dX15_addAll_108 ?_
      obtain ⟨g_21, hE⟩ := gd_e hE
      obtain ⟨h_22, eh_22, hE⟩ := nm_e2 hE
      refine y_iast C hW hZ k_r_18 g_21 eh_22 dX15_addAll_109 (fun _ _ hW km hZ => ?_)
      replace hkm := hkm.tr km
      replace k_x0 := km.at k_x0 (by decide)
      obtain ⟨v_23, ev_23, hE⟩ := nm_e2 hE
      refine lv_iinc (v := v_23) (lv' := [(5, .int v_23), (0, .ref x0), (1, .int x1), (2, .int x2), (3, .int x3), (4, .int x4)]) C.1 C.2.1 dX15_addAll_110 hl (k := 5) rfl (by rw [ev_23]; rfl) (by decide) rfl (fun ls hl => ?_)
      refine lv_goto (tgt := 81) C.1 C.2.1 dX15_addAll_113 (by decide) ?_
      exact hk_81 _ _ _ _ _ _ _ _ _ k_x0 hkm hW hZ _ (lv_sub hl [1, 2, 3, 4, 5, 0] rfl) hE
set_option maxRecDepth 20000 in
theorem bX15_addAll_61 {p : Program} {l : Launch} {e : Env} {s : State} {m : MethodId} {args : Array Value} {below : List Frame} {meth : Method} {c : Code} {X : Ec} {h0 : Hp} {o : Int32 × Hp} {k_2 : Hp → Nat → Int32 → Option (Int32 × Hp)} {k_12 : Hp → Nat → Int32 → Int32 → Option (Int32 × Hp)} {F : Nat} (C : Cx X p s m args meth c RX15 cX15_addAll 6 (some .boolean) "addAll") (hk_2 : ∀ (h : Hp) (x0 : Nat) (x1 : Int32) (H : Heap) (locs : List Loc), hK h x0 = 15 → Km h0 h → Wx X h H → va_S (aA (eB X)) s.heap H locs → ∀ (ls : Array Slot), lv_has ls 6 [(0, .ref x0), (1, .int x1)] → k_2 h x0 x1 = some o → W p l e (rm 4 93) s m args below meth c H locs 0 0 (MQ below (QI X h0 o.1 o.2) args s 0 0 (aA (eB X))) (F0 m 2 ls [])) (hk_12 : ∀ (h : Hp) (x0 : Nat) (x1 : Int32) (x2 : Int32) (H : Heap) (locs : List Loc), hK h x0 = 15 → Km h0 h → Wx X h H → va_S (aA (eB X)) s.heap H locs → ∀ (ls : Array Slot), lv_has ls 6 [(0, .ref x0), (1, .int x1), (2, .int x2)] → k_12 h x0 x1 x2 = some o → W p l e (rm 4 93) s m args below meth c H locs 0 0 (MQ below (QI X h0 o.1 o.2) args s 0 0 (aA (eB X))) (F0 m 12 ls [])) : ∀ (f : Nat) {h : Hp} {x0 : Nat} {x1 : Int32} {x2 : Int32} {x3 : Int32} {x4 : Int32} {H : Heap} {locs : List Loc} (k_x0 : hK h x0 = 15), Km h0 h → Wx X h H → va_S (aA (eB X)) s.heap H locs → ∀ (ls : Array Slot), lv_has ls 6 [(0, .ref x0), (1, .int x1), (2, .int x2), (3, .int x3), (4, .int x4)] → sX15_addAll_61 F k_2 k_12 f h x0 x1 x2 x3 x4 = some o → W p l e (rm 4 93) s m args below meth c H locs 0 0 (MQ below (QI X h0 o.1 o.2) args s 0 0 (aA (eB X))) (F0 m 61 ls []) := by
  intro f
  induction f with
  | zero =>
    intro h x0 x1 x2 x3 x4 H locs k_x0 hkm hW hZ ls hl hE
    rw [sX15_addAll_61] at hE
    cases hE
  | succ f ih =>
    intro h x0 x1 x2 x3 x4 H locs k_x0 hkm hW hZ ls hl hE
    rw [sX15_addAll_61] at hE
    have hk_61 : ∀ (h : Hp) (x0 : Nat) (x1 : Int32) (x2 : Int32) (x3 : Int32) (x4 : Int32) (H : Heap) (locs : List Loc), hK h x0 = 15 → Km h0 h → Wx X h H → va_S (aA (eB X)) s.heap H locs → ∀ (ls : Array Slot), lv_has ls 6 [(0, .ref x0), (1, .int x1), (2, .int x2), (3, .int x3), (4, .int x4)] → sX15_addAll_61 F k_2 k_12 f h x0 x1 x2 x3 x4 = some o → W p l e (rm 4 93) s m args below meth c H locs 0 0 (MQ below (QI X h0 o.1 o.2) args s 0 0 (aA (eB X))) (F0 m 61 ls []) := fun h x0 x1 x2 x3 x4 H locs k_x0 a b c ls hl hE => ih k_x0 a b c ls hl hE
    refine lv_iload C.1 C.2.1 dX15_addAll_61 (lv_at hl 4 rfl) ?_
    refine lv_aload_n C.1 C.2.1 dX15_addAll_63 rfl (lv_at hl 0 rfl) ?_
    obtain ⟨r_1, er_1, hE⟩ := cl_e hE
    refine gf_X15_252 C hW k_x0 er_1 dX15_addAll_64 (fun k_r_1 => ?_)
    obtain ⟨r_2, er_2, hE⟩ := cl_e hE
    refine gf_X15_215 C hW k_r_1 er_2 dX15_addAll_67 (fun k_r_2 => ?_)
    refine lv_iload_n C.1 C.2.1 dX15_addAll_70 rfl (lv_at hl 3 rfl) ?_
    obtain ⟨o_3, eo_3, hE⟩ := cl_e hE
    refine x_kI (o := o_3) (z_runS (As := [.int x3]) (rest := [.ref r_2, .int x4]) C (ct_X15_manOf l X eo_3) cw_X15_492 hW hZ rfl hl.1 (Nat.le_of_ble_eq_true rfl) rfl dX15_addAll_71 ⟨Nat.le_of_ble_eq_true rfl, Nat.le_of_ble_eq_true rfl⟩ ⟨Nat.le_refl _, Nat.le_refl _⟩) hZ (fun _ _ hW km hZ => ?_)
    replace hkm := hkm.tr km
    replace k_x0 := km.at k_x0 (by decide)
    replace k_r_2 := km.at k_r_2 (by decide)
    obtain ⟨g_4, hE⟩ := gd_e hE
    refine y_iald C hW k_r_2 g_4 dX15_addAll_74 ?_
    refine lv_icmp_ge (tgt := 168) C.1 C.2.1 dX15_addAll_75 (by decide) (fun c_5 => ?_) (fun c_5 => ?_)
    · have hE := br_p hE c_5
      obtain ⟨v_6, ev_6, hE⟩ := nm_e2 hE
      refine lv_iinc (v := v_6) (lv' := [(2, .int v_6), (0, .ref x0), (1, .int x1), (3, .int x3), (4, .int x4)]) C.1 C.2.1 dX15_addAll_168 hl (k := 2) rfl (by rw [ev_6]; rfl) (by decide) rfl (fun ls hl => ?_)
      refine lv_goto (tgt := 12) C.1 C.2.1 dX15_addAll_171 (by decide) ?_
      exact hk_12 _ _ _ _ _ _ k_x0 hkm hW hZ _ (lv_sub hl [1, 2, 0] rfl) hE
    · have hE := br_n hE c_5
      refine lv_iconst (v := (0 : Int32)) C.1 C.2.1 dX15_addAll_78 (by decide) ?_
      refine lv_istore (lv' := [(5, .int (0 : Int32)), (0, .ref x0), (1, .int x1), (2, .int x2), (3, .int x3), (4, .int x4)]) C.1 C.2.1 dX15_addAll_79 hl (by decide) rfl (fun ls hl => ?_)
      exact bX15_addAll_81 C hk_2 hk_12 hk_61 F k_x0 hkm hW hZ _ (lv_sub hl [1, 2, 3, 4, 5, 0] rfl) hE
set_option maxRecDepth 20000 in
theorem bX15_addAll_58 {p : Program} {l : Launch} {e : Env} {s : State} {m : MethodId} {args : Array Value} {below : List Frame} {meth : Method} {c : Code} {X : Ec} {h0 : Hp} {o : Int32 × Hp} {k_2 : Hp → Nat → Int32 → Option (Int32 × Hp)} {k_12 : Hp → Nat → Int32 → Int32 → Option (Int32 × Hp)} {F : Nat} (C : Cx X p s m args meth c RX15 cX15_addAll 6 (some .boolean) "addAll") (hk_2 : ∀ (h : Hp) (x0 : Nat) (x1 : Int32) (H : Heap) (locs : List Loc), hK h x0 = 15 → Km h0 h → Wx X h H → va_S (aA (eB X)) s.heap H locs → ∀ (ls : Array Slot), lv_has ls 6 [(0, .ref x0), (1, .int x1)] → k_2 h x0 x1 = some o → W p l e (rm 4 93) s m args below meth c H locs 0 0 (MQ below (QI X h0 o.1 o.2) args s 0 0 (aA (eB X))) (F0 m 2 ls [])) (hk_12 : ∀ (h : Hp) (x0 : Nat) (x1 : Int32) (x2 : Int32) (H : Heap) (locs : List Loc), hK h x0 = 15 → Km h0 h → Wx X h H → va_S (aA (eB X)) s.heap H locs → ∀ (ls : Array Slot), lv_has ls 6 [(0, .ref x0), (1, .int x1), (2, .int x2)] → k_12 h x0 x1 x2 = some o → W p l e (rm 4 93) s m args below meth c H locs 0 0 (MQ below (QI X h0 o.1 o.2) args s 0 0 (aA (eB X))) (F0 m 12 ls [])) {h : Hp} {x0 : Nat} {x1 : Int32} {x2 : Int32} {x3 : Int32} {H : Heap} {locs : List Loc} (k_x0 : hK h x0 = 15) (hkm : Km h0 h) (hW : Wx X h H) (hZ : va_S (aA (eB X)) s.heap H locs) (ls : Array Slot) (hl : lv_has ls 6 [(0, .ref x0), (1, .int x1), (2, .int x2), (3, .int x3)]) (hE : sX15_addAll_58 F k_2 k_12 h x0 x1 x2 x3 = some o) : W p l e (rm 4 93) s m args below meth c H locs 0 0 (MQ below (QI X h0 o.1 o.2) args s 0 0 (aA (eB X))) (F0 m 58 ls []) := by
  refine lv_iconst (v := (0 : Int32)) C.1 C.2.1 dX15_addAll_58 (by decide) ?_
  refine lv_istore (lv' := [(4, .int (0 : Int32)), (0, .ref x0), (1, .int x1), (2, .int x2), (3, .int x3)]) C.1 C.2.1 dX15_addAll_59 hl (by decide) rfl (fun ls hl => ?_)
  exact bX15_addAll_61 C hk_2 hk_12 F k_x0 hkm hW hZ _ (lv_sub hl [1, 2, 3, 4, 0] rfl) hE
set_option maxRecDepth 20000 in
theorem bX15_addAll_12 {p : Program} {l : Launch} {e : Env} {s : State} {m : MethodId} {args : Array Value} {below : List Frame} {meth : Method} {c : Code} {X : Ec} {h0 : Hp} {o : Int32 × Hp} {k_2 : Hp → Nat → Int32 → Option (Int32 × Hp)} {F : Nat} (C : Cx X p s m args meth c RX15 cX15_addAll 6 (some .boolean) "addAll") (hk_2 : ∀ (h : Hp) (x0 : Nat) (x1 : Int32) (H : Heap) (locs : List Loc), hK h x0 = 15 → Km h0 h → Wx X h H → va_S (aA (eB X)) s.heap H locs → ∀ (ls : Array Slot), lv_has ls 6 [(0, .ref x0), (1, .int x1)] → k_2 h x0 x1 = some o → W p l e (rm 4 93) s m args below meth c H locs 0 0 (MQ below (QI X h0 o.1 o.2) args s 0 0 (aA (eB X))) (F0 m 2 ls [])) : ∀ (f : Nat) {h : Hp} {x0 : Nat} {x1 : Int32} {x2 : Int32} {H : Heap} {locs : List Loc} (k_x0 : hK h x0 = 15), Km h0 h → Wx X h H → va_S (aA (eB X)) s.heap H locs → ∀ (ls : Array Slot), lv_has ls 6 [(0, .ref x0), (1, .int x1), (2, .int x2)] → sX15_addAll_12 F k_2 f h x0 x1 x2 = some o → W p l e (rm 4 93) s m args below meth c H locs 0 0 (MQ below (QI X h0 o.1 o.2) args s 0 0 (aA (eB X))) (F0 m 12 ls []) := by
  intro f
  induction f with
  | zero =>
    intro h x0 x1 x2 H locs k_x0 hkm hW hZ ls hl hE
    rw [sX15_addAll_12] at hE
    cases hE
  | succ f ih =>
    intro h x0 x1 x2 H locs k_x0 hkm hW hZ ls hl hE
    rw [sX15_addAll_12] at hE
    have hk_12 : ∀ (h : Hp) (x0 : Nat) (x1 : Int32) (x2 : Int32) (H : Heap) (locs : List Loc), hK h x0 = 15 → Km h0 h → Wx X h H → va_S (aA (eB X)) s.heap H locs → ∀ (ls : Array Slot), lv_has ls 6 [(0, .ref x0), (1, .int x1), (2, .int x2)] → sX15_addAll_12 F k_2 f h x0 x1 x2 = some o → W p l e (rm 4 93) s m args below meth c H locs 0 0 (MQ below (QI X h0 o.1 o.2) args s 0 0 (aA (eB X))) (F0 m 12 ls []) := fun h x0 x1 x2 H locs k_x0 a b c ls hl hE => ih k_x0 a b c ls hl hE
    refine lv_iload_n C.1 C.2.1 dX15_addAll_12 rfl (lv_at hl 2 rfl) ?_
    refine lv_aload_n C.1 C.2.1 dX15_addAll_13 rfl (lv_at hl 0 rfl) ?_
    obtain ⟨r_1, er_1, hE⟩ := cl_e hE
    refine gf_X15_333 C hW k_x0 er_1 dX15_addAll_14 (fun k_r_1 => ?_)
    refine lv_iload_n C.1 C.2.1 dX15_addAll_17 rfl (lv_at hl 1 rfl) ?_
    obtain ⟨g_2, hE⟩ := gd_e hE
    refine y_iald C hW k_r_1 g_2 dX15_addAll_18 ?_
    refine lv_icmp_ge (tgt := 174) C.1 C.2.1 dX15_addAll_19 (by decide) (fun c_3 => ?_) (fun c_3 => ?_)
    · have hE := br_p hE c_3
      obtain ⟨v_4, ev_4, hE⟩ := nm_e2 hE
      refine lv_iinc (v := v_4) (lv' := [(1, .int v_4), (0, .ref x0), (2, .int x2)]) C.1 C.2.1 dX15_addAll_174 hl (k := 1) rfl (by rw [ev_4]; rfl) (by decide) rfl (fun ls hl => ?_)
      refine lv_goto (tgt := 2) C.1 C.2.1 dX15_addAll_177 (by decide) ?_
      exact hk_2 _ _ _ _ _ k_x0 hkm hW hZ _ (lv_sub hl [1, 0] rfl) hE
    · have hE := br_n hE c_3
      refine lv_aload_n C.1 C.2.1 dX15_addAll_22 rfl (lv_at hl 0 rfl) ?_
      obtain ⟨r_5, er_5, hE⟩ := cl_e hE
      refine gf_X15_336 C hW k_x0 er_5 dX15_addAll_23 (fun k_r_5 => ?_)
      refine lv_iconst (v := (5 : Int32)) C.1 C.2.1 dX15_addAll_26 (by decide) ?_
      refine lv_iload_n C.1 C.2.1 dX15_addAll_27 rfl (lv_at hl 1 rfl) ?_
      refine lv_imul C.1 C.2.1 dX15_addAll_28 ?_
      refine lv_iload_n C.1 C.2.1 dX15_addAll_29 rfl (lv_at hl 2 rfl) ?_
      refine lv_iadd C.1 C.2.1 dX15_addAll_30 ?_
      obtain ⟨g_6, hE⟩ := gd_e hE
      refine y_iald C hW k_r_5 g_6 dX15_addAll_31 ?_
      obtain ⟨v_7, ev_7, hE⟩ := nm_e2 hE
      refine x_nmI ev_7 ?_
      refine lv_istore_n (lv' := [(3, .int v_7), (0, .ref x0), (1, .int x1), (2, .int x2)]) C.1 C.2.1 dX15_addAll_32 rfl hl (by decide) rfl (fun ls hl => ?_)
      refine lv_iload_n C.1 C.2.1 dX15_addAll_33 rfl (lv_at hl 0 rfl) ?_
      obtain ⟨o_8, eo_8, hE⟩ := cl_e hE
      refine x_kI (o := o_8) (z_runS (As := [.int v_7]) (rest := []) C (ct_X15_manOf l X eo_8) cw_X15_492 hW hZ rfl hl.1 (Nat.le_of_ble_eq_true rfl) rfl dX15_addAll_34 ⟨Nat.le_of_ble_eq_true rfl, Nat.le_of_ble_eq_true rfl⟩ ⟨Nat.le_refl _, Nat.le_refl _⟩) hZ (fun _ _ hW km hZ => ?_)
      replace hkm := hkm.tr km
      replace k_x0 := km.at k_x0 (by decide)
      refine lv_aload_n C.1 C.2.1 dX15_addAll_37 rfl (lv_at hl 1 rfl) ?_
      obtain ⟨r_9, er_9, hE⟩ := cl_e hE
      refine gf_X15_252 C hW k_x0 er_9 dX15_addAll_38 (fun k_r_9 => ?_)
      refine gf_X15_221 C hW k_r_9 dX15_addAll_41 ?_
      refine lv_icmp_eq (tgt := 58) C.1 C.2.1 dX15_addAll_44 (by decide) (fun c_10 => ?_) (fun c_10 => ?_)
      · have hE := br_p hE c_10
        exact bX15_addAll_58 C hk_2 hk_12 k_x0 hkm hW hZ _ (lv_sub hl [1, 2, 3, 0] rfl) hE
      · have hE := br_n hE c_10
        refine lv_aload_n C.1 C.2.1 dX15_addAll_47 rfl (lv_at hl 1 rfl) ?_
        refine lv_iload_n C.1 C.2.1 dX15_addAll_48 rfl (lv_at hl 2 rfl) ?_
        refine lv_iload_n C.1 C.2.1 dX15_addAll_49 rfl (lv_at hl 3 rfl) ?_
        obtain ⟨o_11, eo_11, hE⟩ := cl_e hE
        refine x_kI (o := o_11) (z_runV (As := [.int x1, .int x2]) (rest := []) C (ct_X15_copyWithout l X F k_x0 eo_11) cw_X15_757 hW hZ k_x0 (by decide) rfl rfl rfl hl.1 (Nat.le_of_ble_eq_true rfl) rfl dX15_addAll_50 ⟨Nat.le_of_ble_eq_true rfl, Nat.le_of_ble_eq_true rfl⟩ ⟨Nat.le_refl _, Nat.le_refl _⟩) hZ (fun _ _ hW km hZ => ?_)
        replace hkm := hkm.tr km
        replace k_x0 := km.at k_x0 (by decide)
        refine lv_if_ne (tgt := 58) C.1 C.2.1 dX15_addAll_53 (by decide) (fun c_12 => ?_) (fun c_12 => ?_)
        · have hE := br_n hE c_12
          exact bX15_addAll_58 C hk_2 hk_12 k_x0 hkm hW hZ _ (lv_sub hl [1, 2, 3, 0] rfl) hE
        · have hE := br_p hE c_12
          refine lv_iconst (v := (0 : Int32)) C.1 C.2.1 dX15_addAll_56 (by decide) ?_
          exact x_iret C rfl (by decide) hW hZ hkm hE dX15_addAll_57
set_option maxRecDepth 20000 in
theorem bX15_addAll_2 {p : Program} {l : Launch} {e : Env} {s : State} {m : MethodId} {args : Array Value} {below : List Frame} {meth : Method} {c : Code} {X : Ec} {h0 : Hp} {o : Int32 × Hp} {F : Nat} (C : Cx X p s m args meth c RX15 cX15_addAll 6 (some .boolean) "addAll") : ∀ (f : Nat) {h : Hp} {x0 : Nat} {x1 : Int32} {H : Heap} {locs : List Loc} (k_x0 : hK h x0 = 15), Km h0 h → Wx X h H → va_S (aA (eB X)) s.heap H locs → ∀ (ls : Array Slot), lv_has ls 6 [(0, .ref x0), (1, .int x1)] → sX15_addAll_2 F f h x0 x1 = some o → W p l e (rm 4 93) s m args below meth c H locs 0 0 (MQ below (QI X h0 o.1 o.2) args s 0 0 (aA (eB X))) (F0 m 2 ls []) := by
  intro f
  induction f with
  | zero =>
    intro h x0 x1 H locs k_x0 hkm hW hZ ls hl hE
    rw [sX15_addAll_2] at hE
    cases hE
  | succ f ih =>
    intro h x0 x1 H locs k_x0 hkm hW hZ ls hl hE
    rw [sX15_addAll_2] at hE
    have hk_2 : ∀ (h : Hp) (x0 : Nat) (x1 : Int32) (H : Heap) (locs : List Loc), hK h x0 = 15 → Km h0 h → Wx X h H → va_S (aA (eB X)) s.heap H locs → ∀ (ls : Array Slot), lv_has ls 6 [(0, .ref x0), (1, .int x1)] → sX15_addAll_2 F f h x0 x1 = some o → W p l e (rm 4 93) s m args below meth c H locs 0 0 (MQ below (QI X h0 o.1 o.2) args s 0 0 (aA (eB X))) (F0 m 2 ls []) := fun h x0 x1 H locs k_x0 a b c ls hl hE => ih k_x0 a b c ls hl hE
    refine lv_iload_n C.1 C.2.1 dX15_addAll_2 rfl (lv_at hl 1 rfl) ?_
    refine lv_aload_n C.1 C.2.1 dX15_addAll_3 rfl (lv_at hl 0 rfl) ?_
    refine gf_X15_751 C hW k_x0 dX15_addAll_4 ?_
    refine lv_icmp_ge (tgt := 180) C.1 C.2.1 dX15_addAll_7 (by decide) (fun c_1 => ?_) (fun c_1 => ?_)
    · have hE := br_p hE c_1
      refine lv_iconst (v := (1 : Int32)) C.1 C.2.1 dX15_addAll_180 (by decide) ?_
      exact x_iret C rfl (by decide) hW hZ hkm hE dX15_addAll_181
    · have hE := br_n hE c_1
      refine lv_iconst (v := (0 : Int32)) C.1 C.2.1 dX15_addAll_10 (by decide) ?_
      refine lv_istore_n (lv' := [(2, .int (0 : Int32)), (0, .ref x0), (1, .int x1)]) C.1 C.2.1 dX15_addAll_11 rfl hl (by decide) rfl (fun ls hl => ?_)
      exact bX15_addAll_12 C hk_2 F k_x0 hkm hW hZ _ (lv_sub hl [1, 2, 0] rfl) hE
set_option maxRecDepth 20000 in
theorem ct_X15_addAll (l : Launch) (X : Ec) (F : Nat) {h : Hp} {x0 : Nat} {o : Int32 × Hp} (k_x0 : hK h x0 = 15) (hE : sX15_addAll F h x0 = some o) : MetI l yX15_addAll cX15_addAll 6 (some .boolean) 4 93 X [.ref x0] h o := by
  refine x_met (by decide) (Nat.le_of_ble_eq_true rfl) ?_
  intro p e s m below meth c ls C hl hW hZ
  have hl : lv_has ls 6 [(0, .ref x0)] := hl
  have hkm : Km h h := Km.rf h
  refine lv_iconst (v := (0 : Int32)) C.1 C.2.1 dX15_addAll_0 (by decide) ?_
  refine lv_istore_n (lv' := [(1, .int (0 : Int32)), (0, .ref x0)]) C.1 C.2.1 dX15_addAll_1 rfl hl (by decide) rfl (fun ls hl => ?_)
  exact bX15_addAll_2 C F k_x0 hkm hW hZ _ (lv_sub hl [1, 0] rfl) hE
theorem dX15_sizeOf_0 : decode cX15_sizeOf 0 = .ok (.iconst 2, 1) := by decide +kernel
theorem dX15_sizeOf_1 : decode cX15_sizeOf 1 = .ok (.istore_n 2, 1) := by decide +kernel
theorem dX15_sizeOf_2 : decode cX15_sizeOf 2 = .ok (.iconst 0, 1) := by decide +kernel
theorem dX15_sizeOf_3 : decode cX15_sizeOf 3 = .ok (.istore_n 3, 1) := by decide +kernel
theorem dX15_sizeOf_4 : decode cX15_sizeOf 4 = .ok (.iload_n 3, 1) := by decide +kernel
theorem dX15_sizeOf_5 : decode cX15_sizeOf 5 = .ok (.aload_n 0, 1) := by decide +kernel
theorem dX15_sizeOf_6 : decode cX15_sizeOf 6 = .ok (.getfield 333, 3) := by decide +kernel
theorem dX15_sizeOf_9 : decode cX15_sizeOf 9 = .ok (.iload_n 1, 1) := by decide +kernel
theorem dX15_sizeOf_10 : decode cX15_sizeOf 10 = .ok (.iaload, 1) := by decide +kernel
theorem dX15_sizeOf_11 : decode cX15_sizeOf 11 = .ok (.if_icmp .ge 16, 3) := by decide +kernel
theorem dX15_sizeOf_14 : decode cX15_sizeOf 14 = .ok (.iload_n 2, 1) := by decide +kernel
theorem dX15_sizeOf_15 : decode cX15_sizeOf 15 = .ok (.aload_n 0, 1) := by decide +kernel
theorem dX15_sizeOf_16 : decode cX15_sizeOf 16 = .ok (.getfield 384, 3) := by decide +kernel
theorem dX15_sizeOf_19 : decode cX15_sizeOf 19 = .ok (.imul, 1) := by decide +kernel
theorem dX15_sizeOf_20 : decode cX15_sizeOf 20 = .ok (.istore_n 2, 1) := by decide +kernel
theorem dX15_sizeOf_21 : decode cX15_sizeOf 21 = .ok (.iinc 3 1, 3) := by decide +kernel
theorem dX15_sizeOf_24 : decode cX15_sizeOf 24 = .ok (.goto (-20), 3) := by decide +kernel
theorem dX15_sizeOf_27 : decode cX15_sizeOf 27 = .ok (.iload_n 2, 1) := by decide +kernel
theorem dX15_sizeOf_28 : decode cX15_sizeOf 28 = .ok (.ireturn, 1) := by decide +kernel
def sX15_sizeOf_4 (F : Nat) : Nat → Hp → Nat → Int32 → Int32 → Int32 → Option (Int32 × Hp)
  | 0, _, _, _, _, _ => none
  | f + 1, h, x0, x1, x2, x3 => cl (hR h x0 46) fun r_1 => gd (inB x1 (hN h r_1)) <| br ((hI h r_1 x1.toNatClampNeg) ≤ x3) (some (x2, h)) (nm (x2 * (hI h x0 13)) fun v_4 => nm (x3 + (1 : Int32)) fun v_5 => sX15_sizeOf_4 F f h x0 x1 v_4 v_5)
def sX15_sizeOf (F : Nat) (h : Hp) (x0 : Nat) (x1 : Int32) : Option (Int32 × Hp) := sX15_sizeOf_4 F F h x0 x1 (2 : Int32) (0 : Int32)
set_option maxRecDepth 20000 in
theorem moX15_sizeOf_4 {o : Int32 × Hp} {F : Nat} : ∀ (f : Nat) {h : Hp} {x0 : Nat} {x1 : Int32} {x2 : Int32} {x3 : Int32}, sX15_sizeOf_4 F f h x0 x1 x2 x3 = some o → Le h o.2 := by
  intro f
  induction f with
  | zero =>
    intro h x0 x1 x2 x3 hE
    rw [sX15_sizeOf_4] at hE
    cases hE
  | succ f ih =>
    intro h x0 x1 x2 x3 hE
    rw [sX15_sizeOf_4] at hE
    have mk_4 : ∀ (h : Hp) (x0 : Nat) (x1 : Int32) (x2 : Int32) (x3 : Int32), sX15_sizeOf_4 F f h x0 x1 x2 x3 = some o → Le h o.2 := fun h x0 x1 x2 x3 hE => ih hE
    obtain ⟨r_1, er_1, hE⟩ := cl_e hE
    obtain ⟨g_2, hE⟩ := gd_e hE
    rcases br_e hE with ⟨_, hE⟩ | ⟨_, hE⟩
    · first | exact le_some2 hE | exact le_some1 hE
    · obtain ⟨v_4, ev_4, hE⟩ := nm_e2 hE
      obtain ⟨v_5, ev_5, hE⟩ := nm_e2 hE
      exact mk_4 _ _ _ _ _ hE
set_option maxRecDepth 20000 in
theorem moX15_sizeOf {o : Int32 × Hp} {F : Nat} {h : Hp} {x0 : Nat} {x1 : Int32} (hE : sX15_sizeOf F h x0 x1 = some o) : Le h o.2 := by
  exact moX15_sizeOf_4 _ hE
set_option maxRecDepth 20000 in
theorem bX15_sizeOf_4 {p : Program} {l : Launch} {e : Env} {s : State} {m : MethodId} {args : Array Value} {below : List Frame} {meth : Method} {c : Code} {X : Ec} {h0 : Hp} {o : Int32 × Hp} {F : Nat} (C : Cx X p s m args meth c RX15 cX15_sizeOf 4 (some .int) "sizeOf") : ∀ (f : Nat) {h : Hp} {x0 : Nat} {x1 : Int32} {x2 : Int32} {x3 : Int32} {H : Heap} {locs : List Loc} (k_x0 : hK h x0 = 15), Km h0 h → Wx X h H → va_S (aA (eB X)) s.heap H locs → ∀ (ls : Array Slot), lv_has ls 4 [(0, .ref x0), (1, .int x1), (2, .int x2), (3, .int x3)] → sX15_sizeOf_4 F f h x0 x1 x2 x3 = some o → W p l e (rm 0 0) s m args below meth c H locs 0 0 (MQ below (QI X h0 o.1 o.2) args s 0 0 (aA (eB X))) (F0 m 4 ls []) := by
  intro f
  induction f with
  | zero =>
    intro h x0 x1 x2 x3 H locs k_x0 hkm hW hZ ls hl hE
    rw [sX15_sizeOf_4] at hE
    cases hE
  | succ f ih =>
    intro h x0 x1 x2 x3 H locs k_x0 hkm hW hZ ls hl hE
    rw [sX15_sizeOf_4] at hE
    have hk_4 : ∀ (h : Hp) (x0 : Nat) (x1 : Int32) (x2 : Int32) (x3 : Int32) (H : Heap) (locs : List Loc), hK h x0 = 15 → Km h0 h → Wx X h H → va_S (aA (eB X)) s.heap H locs → ∀ (ls : Array Slot), lv_has ls 4 [(0, .ref x0), (1, .int x1), (2, .int x2), (3, .int x3)] → sX15_sizeOf_4 F f h x0 x1 x2 x3 = some o → W p l e (rm 0 0) s m args below meth c H locs 0 0 (MQ below (QI X h0 o.1 o.2) args s 0 0 (aA (eB X))) (F0 m 4 ls []) := fun h x0 x1 x2 x3 H locs k_x0 a b c ls hl hE => ih k_x0 a b c ls hl hE
    refine lv_iload_n C.1 C.2.1 dX15_sizeOf_4 rfl (lv_at hl 3 rfl) ?_
    refine lv_aload_n C.1 C.2.1 dX15_sizeOf_5 rfl (lv_at hl 0 rfl) ?_
    obtain ⟨r_1, er_1, hE⟩ := cl_e hE
    refine gf_X15_333 C hW k_x0 er_1 dX15_sizeOf_6 (fun k_r_1 => ?_)
    refine lv_iload_n C.1 C.2.1 dX15_sizeOf_9 rfl (lv_at hl 1 rfl) ?_
    obtain ⟨g_2, hE⟩ := gd_e hE
    refine y_iald C hW k_r_1 g_2 dX15_sizeOf_10 ?_
    refine lv_icmp_ge (tgt := 27) C.1 C.2.1 dX15_sizeOf_11 (by decide) (fun c_3 => ?_) (fun c_3 => ?_)
    · have hE := br_p hE c_3
      refine lv_iload_n C.1 C.2.1 dX15_sizeOf_27 rfl (lv_at hl 2 rfl) ?_
      exact x_iret C rfl rfl hW hZ hkm hE dX15_sizeOf_28
    · have hE := br_n hE c_3
      refine lv_iload_n C.1 C.2.1 dX15_sizeOf_14 rfl (lv_at hl 2 rfl) ?_
      refine lv_aload_n C.1 C.2.1 dX15_sizeOf_15 rfl (lv_at hl 0 rfl) ?_
      refine gf_X15_384 C hW k_x0 dX15_sizeOf_16 ?_
      refine lv_imul C.1 C.2.1 dX15_sizeOf_19 ?_
      obtain ⟨v_4, ev_4, hE⟩ := nm_e2 hE
      refine x_nmI ev_4 ?_
      refine lv_istore_n (lv' := [(2, .int v_4), (0, .ref x0), (1, .int x1), (3, .int x3)]) C.1 C.2.1 dX15_sizeOf_20 rfl hl (by decide) rfl (fun ls hl => ?_)
      obtain ⟨v_5, ev_5, hE⟩ := nm_e2 hE
      refine lv_iinc (v := v_5) (lv' := [(3, .int v_5), (2, .int v_4), (0, .ref x0), (1, .int x1)]) C.1 C.2.1 dX15_sizeOf_21 hl (k := 3) rfl (by rw [ev_5]; rfl) (by decide) rfl (fun ls hl => ?_)
      refine lv_goto (tgt := 4) C.1 C.2.1 dX15_sizeOf_24 (by decide) ?_
      exact hk_4 _ _ _ _ _ _ _ k_x0 hkm hW hZ _ (lv_sub hl [2, 3, 1, 0] rfl) hE
set_option maxRecDepth 20000 in
theorem ct_X15_sizeOf (l : Launch) (X : Ec) (F : Nat) {h : Hp} {x0 : Nat} {x1 : Int32} {o : Int32 × Hp} (k_x0 : hK h x0 = 15) (hE : sX15_sizeOf F h x0 x1 = some o) : MetI l yX15_sizeOf cX15_sizeOf 4 (some .int) 0 0 X [.ref x0, .int x1] h o := by
  refine x_met (by decide) (Nat.le_of_ble_eq_true rfl) ?_
  intro p e s m below meth c ls C hl hW hZ
  have hl : lv_has ls 4 [(0, .ref x0), (1, .int x1)] := hl
  have hkm : Km h h := Km.rf h
  refine lv_iconst (v := (2 : Int32)) C.1 C.2.1 dX15_sizeOf_0 (by decide) ?_
  refine lv_istore_n (lv' := [(2, .int (2 : Int32)), (0, .ref x0), (1, .int x1)]) C.1 C.2.1 dX15_sizeOf_1 rfl hl (by decide) rfl (fun ls hl => ?_)
  refine lv_iconst (v := (0 : Int32)) C.1 C.2.1 dX15_sizeOf_2 (by decide) ?_
  refine lv_istore_n (lv' := [(3, .int (0 : Int32)), (2, .int (2 : Int32)), (0, .ref x0), (1, .int x1)]) C.1 C.2.1 dX15_sizeOf_3 rfl hl (by decide) rfl (fun ls hl => ?_)
  exact bX15_sizeOf_4 C F k_x0 hkm hW hZ _ (lv_sub hl [2, 3, 1, 0] rfl) hE
section
variable {p : Program} {l : Launch} {e : Env} {R : Room} {s : State} {m : MethodId} {args : Array Value} {below : List Frame} {meth : Method} {c : Code} {H : Heap} {locs : List Loc} {cells slots : Nat} {Q : State → Prop}
variable {cc : ByteArray} {pc : Nat} {ls : Array Slot} {rest : List Value} {X : Ec} {h h1 : Hp} {nL : Nat} {rt : Option FieldType} {mn : String}
theorem gf_X15_365 {a r : Nat} (C : Cx X p s m args meth c RX15 cc nL rt mn) (hW : Wx X h H) (ha : hK h a = 15) (hr : hR h a 60 = some r) (hdg : decode cc pc = .ok (.getfield 365, 3)) (kk : hK h r = 12 → W p l e R s m args below meth c H locs cells slots Q (F0 m (pc + 3) ls (.ref r :: rest))) : W p l e R s m args below meth c H locs cells slots Q (F0 m pc ls (.ref a :: rest)) :=
  y_getr C hW ha i_X15 (by decide) rfl (by decide) m_2192 rfl rfl hr hdg kk
end
theorem dX15_layState_0 : decode cX15_layState 0 = .ok (.aload_n 0, 1) := by decide +kernel
theorem dX15_layState_1 : decode cX15_layState 1 = .ok (.getfield 365, 3) := by decide +kernel
theorem dX15_layState_4 : decode cX15_layState 4 = .ok (.invokevirtual 455, 3) := by decide +kernel
theorem dX15_layState_7 : decode cX15_layState 7 = .ok (.aload_n 0, 1) := by decide +kernel
theorem dX15_layState_8 : decode cX15_layState 8 = .ok (.getfield 365, 3) := by decide +kernel
theorem dX15_layState_11 : decode cX15_layState 11 = .ok (.iload_n 2, 1) := by decide +kernel
theorem dX15_layState_12 : decode cX15_layState 12 = .ok (.iconst 1, 1) := by decide +kernel
theorem dX15_layState_13 : decode cX15_layState 13 = .ok (.iand, 1) := by decide +kernel
theorem dX15_layState_14 : decode cX15_layState 14 = .ok (.putfield 452, 3) := by decide +kernel
theorem dX15_layState_17 : decode cX15_layState 17 = .ok (.iload_n 2, 1) := by decide +kernel
theorem dX15_layState_18 : decode cX15_layState 18 = .ok (.iconst 1, 1) := by decide +kernel
theorem dX15_layState_19 : decode cX15_layState 19 = .ok (.ishr, 1) := by decide +kernel
theorem dX15_layState_20 : decode cX15_layState 20 = .ok (.istore_n 3, 1) := by decide +kernel
theorem dX15_layState_21 : decode cX15_layState 21 = .ok (.iconst (-1), 1) := by decide +kernel
theorem dX15_layState_22 : decode cX15_layState 22 = .ok (.istore 4, 2) := by decide +kernel
theorem dX15_layState_24 : decode cX15_layState 24 = .ok (.iconst 0, 1) := by decide +kernel
theorem dX15_layState_25 : decode cX15_layState 25 = .ok (.istore 5, 2) := by decide +kernel
theorem dX15_layState_27 : decode cX15_layState 27 = .ok (.iload 5, 2) := by decide +kernel
theorem dX15_layState_29 : decode cX15_layState 29 = .ok (.aload_n 0, 1) := by decide +kernel
theorem dX15_layState_30 : decode cX15_layState 30 = .ok (.getfield 333, 3) := by decide +kernel
theorem dX15_layState_33 : decode cX15_layState 33 = .ok (.iload_n 1, 1) := by decide +kernel
theorem dX15_layState_34 : decode cX15_layState 34 = .ok (.iaload, 1) := by decide +kernel
theorem dX15_layState_35 : decode cX15_layState 35 = .ok (.if_icmp .ge 98, 3) := by decide +kernel
theorem dX15_layState_38 : decode cX15_layState 38 = .ok (.iload_n 3, 1) := by decide +kernel
theorem dX15_layState_39 : decode cX15_layState 39 = .ok (.aload_n 0, 1) := by decide +kernel
theorem dX15_layState_40 : decode cX15_layState 40 = .ok (.getfield 384, 3) := by decide +kernel
theorem dX15_layState_43 : decode cX15_layState 43 = .ok (.irem, 1) := by decide +kernel
theorem dX15_layState_44 : decode cX15_layState 44 = .ok (.istore 6, 2) := by decide +kernel
theorem dX15_layState_46 : decode cX15_layState 46 = .ok (.iload_n 3, 1) := by decide +kernel
theorem dX15_layState_47 : decode cX15_layState 47 = .ok (.aload_n 0, 1) := by decide +kernel
theorem dX15_layState_48 : decode cX15_layState 48 = .ok (.getfield 384, 3) := by decide +kernel
theorem dX15_layState_51 : decode cX15_layState 51 = .ok (.idiv, 1) := by decide +kernel
theorem dX15_layState_52 : decode cX15_layState 52 = .ok (.istore_n 3, 1) := by decide +kernel
theorem dX15_layState_53 : decode cX15_layState 53 = .ok (.aload_n 0, 1) := by decide +kernel
theorem dX15_layState_54 : decode cX15_layState 54 = .ok (.getfield 336, 3) := by decide +kernel
theorem dX15_layState_57 : decode cX15_layState 57 = .ok (.iconst 5, 1) := by decide +kernel
theorem dX15_layState_58 : decode cX15_layState 58 = .ok (.iload_n 1, 1) := by decide +kernel
theorem dX15_layState_59 : decode cX15_layState 59 = .ok (.imul, 1) := by decide +kernel
theorem dX15_layState_60 : decode cX15_layState 60 = .ok (.iload 5, 2) := by decide +kernel
theorem dX15_layState_62 : decode cX15_layState 62 = .ok (.iadd, 1) := by decide +kernel
theorem dX15_layState_63 : decode cX15_layState 63 = .ok (.iaload, 1) := by decide +kernel
theorem dX15_layState_64 : decode cX15_layState 64 = .ok (.istore 7, 2) := by decide +kernel
theorem dX15_layState_66 : decode cX15_layState 66 = .ok (.aload_n 0, 1) := by decide +kernel
theorem dX15_layState_67 : decode cX15_layState 67 = .ok (.getfield 365, 3) := by decide +kernel
theorem dX15_layState_70 : decode cX15_layState 70 = .ok (.getfield 396, 3) := by decide +kernel
theorem dX15_layState_73 : decode cX15_layState 73 = .ok (.iload 6, 2) := by decide +kernel
theorem dX15_layState_75 : decode cX15_layState 75 = .ok (.iaload, 1) := by decide +kernel
theorem dX15_layState_76 : decode cX15_layState 76 = .ok (.ifCond .gt 33, 3) := by decide +kernel
theorem dX15_layState_79 : decode cX15_layState 79 = .ok (.iload 5, 2) := by decide +kernel
theorem dX15_layState_81 : decode cX15_layState 81 = .ok (.ifCond .le 30, 3) := by decide +kernel
theorem dX15_layState_84 : decode cX15_layState 84 = .ok (.aload_n 0, 1) := by decide +kernel
theorem dX15_layState_85 : decode cX15_layState 85 = .ok (.getfield 336, 3) := by decide +kernel
theorem dX15_layState_88 : decode cX15_layState 88 = .ok (.iconst 5, 1) := by decide +kernel
theorem dX15_layState_89 : decode cX15_layState 89 = .ok (.iload_n 1, 1) := by decide +kernel
theorem dX15_layState_90 : decode cX15_layState 90 = .ok (.imul, 1) := by decide +kernel
theorem dX15_layState_91 : decode cX15_layState 91 = .ok (.iload 5, 2) := by decide +kernel
theorem dX15_layState_93 : decode cX15_layState 93 = .ok (.iadd, 1) := by decide +kernel
theorem dX15_layState_94 : decode cX15_layState 94 = .ok (.iconst 1, 1) := by decide +kernel
theorem dX15_layState_95 : decode cX15_layState 95 = .ok (.isub, 1) := by decide +kernel
theorem dX15_layState_96 : decode cX15_layState 96 = .ok (.iaload, 1) := by decide +kernel
theorem dX15_layState_97 : decode cX15_layState 97 = .ok (.iload 7, 2) := by decide +kernel
theorem dX15_layState_99 : decode cX15_layState 99 = .ok (.if_icmp .ne 12, 3) := by decide +kernel
theorem dX15_layState_102 : decode cX15_layState 102 = .ok (.iload 6, 2) := by decide +kernel
theorem dX15_layState_104 : decode cX15_layState 104 = .ok (.iload 4, 2) := by decide +kernel
theorem dX15_layState_106 : decode cX15_layState 106 = .ok (.if_icmp .ge 5, 3) := by decide +kernel
theorem dX15_layState_109 : decode cX15_layState 109 = .ok (.iconst 0, 1) := by decide +kernel
theorem dX15_layState_110 : decode cX15_layState 110 = .ok (.ireturn, 1) := by decide +kernel
theorem dX15_layState_111 : decode cX15_layState 111 = .ok (.aload_n 0, 1) := by decide +kernel
theorem dX15_layState_112 : decode cX15_layState 112 = .ok (.getfield 365, 3) := by decide +kernel
theorem dX15_layState_115 : decode cX15_layState 115 = .ok (.getfield 396, 3) := by decide +kernel
theorem dX15_layState_118 : decode cX15_layState 118 = .ok (.iload 6, 2) := by decide +kernel
theorem dX15_layState_120 : decode cX15_layState 120 = .ok (.iload 7, 2) := by decide +kernel
theorem dX15_layState_122 : decode cX15_layState 122 = .ok (.iastore, 1) := by decide +kernel
theorem dX15_layState_123 : decode cX15_layState 123 = .ok (.iload 6, 2) := by decide +kernel
theorem dX15_layState_125 : decode cX15_layState 125 = .ok (.istore 4, 2) := by decide +kernel
theorem dX15_layState_127 : decode cX15_layState 127 = .ok (.iinc 5 1, 3) := by decide +kernel
theorem dX15_layState_130 : decode cX15_layState 130 = .ok (.goto (-103), 3) := by decide +kernel
theorem dX15_layState_133 : decode cX15_layState 133 = .ok (.iconst 1, 1) := by decide +kernel
theorem dX15_layState_134 : decode cX15_layState 134 = .ok (.ireturn, 1) := by decide +kernel
def sX15_layState_109 (F : Nat) (h : Hp) : Option (Int32 × Hp) := some ((0 : Int32), h)
def sX15_layState_111 (F : Nat) (k_27 : Hp → Nat → Int32 → Int32 → Int32 → Int32 → Option (Int32 × Hp)) (h : Hp) (x0 : Nat) (x1 : Int32) (x3 : Int32) (x5 : Int32) (x6 : Int32) (x7 : Int32) : Option (Int32 × Hp) := cl (hR h x0 60) fun r_1 => cl (hR h r_1 0) fun r_2 => gd (inB x6 (hN h r_2)) <| nm (wI h r_2 x6.toNatClampNeg x7) fun h_4 => nm (x5 + (1 : Int32)) fun v_5 => k_27 h_4 x0 x1 x3 x6 v_5
def sX15_layState_27 (F : Nat) : Nat → Hp → Nat → Int32 → Int32 → Int32 → Int32 → Option (Int32 × Hp)
  | 0, _, _, _, _, _, _ => none
  | f + 1, h, x0, x1, x3, x4, x5 => cl (hR h x0 46) fun r_1 => gd (inB x1 (hN h r_1)) <| br ((hI h r_1 x1.toNatClampNeg) ≤ x5) (some ((1 : Int32), h)) (gd (¬ (hI h x0 13) = 0) <| nm (x3 - x3 / (hI h x0 13) * (hI h x0 13)) fun v_5 => gd (¬ (hI h x0 13) = 0) <| nm (x3 / (hI h x0 13)) fun v_7 => cl (hR h x0 47) fun r_8 => gd (inB (((5 : Int32) * x1) + x5) (hN h r_8)) <| nm (hI h r_8 (((5 : Int32) * x1) + x5).toNatClampNeg) fun v_10 => cl (hR h x0 60) fun r_11 => cl (hR h r_11 0) fun r_12 => gd (inB v_5 (hN h r_12)) <| br (0 < (hI h r_12 v_5.toNatClampNeg)) (sX15_layState_109 F h ) (br (x5 ≤ 0) (sX15_layState_111 F (sX15_layState_27 F f) h x0 x1 v_7 x5 v_5 v_10) (cl (hR h x0 47) fun r_16 => gd (inB ((((5 : Int32) * x1) + x5) - (1 : Int32)) (hN h r_16)) <| br ((hI h r_16 ((((5 : Int32) * x1) + x5) - (1 : Int32)).toNatClampNeg) = v_10) (br (x4 ≤ v_5) (sX15_layState_111 F (sX15_layState_27 F f) h x0 x1 v_7 x5 v_5 v_10) (sX15_layState_109 F h )) (sX15_layState_111 F (sX15_layState_27 F f) h x0 x1 v_7 x5 v_5 v_10))))
def sX15_layState (F : Nat) (h : Hp) (x0 : Nat) (x1 : Int32) (x2 : Int32) : Option (Int32 × Hp) := cl (hR h x0 60) fun r_1 => cl (sX12_clear F h r_1) fun o_2 => cl (hR o_2 x0 60) fun r_3 => nm (wI o_2 r_3 1 (x2 &&& (1 : Int32))) fun h_4 => nm (x2 >>> ((1 : Int32) &&& 31)) fun v_5 => sX15_layState_27 F F h_4 x0 x1 v_5 (-1 : Int32) (0 : Int32)
set_option maxRecDepth 20000 in
theorem moX15_layState_109 {o : Int32 × Hp} {F : Nat} {h : Hp} (hE : sX15_layState_109 F h  = some o) : Le h o.2 := by
  first | exact le_some2 hE | exact le_some1 hE
set_option maxRecDepth 20000 in
theorem moX15_layState_111 {o : Int32 × Hp} {k_27 : Hp → Nat → Int32 → Int32 → Int32 → Int32 → Option (Int32 × Hp)} {F : Nat} (mk_27 : ∀ (h : Hp) (x0 : Nat) (x1 : Int32) (x3 : Int32) (x4 : Int32) (x5 : Int32), k_27 h x0 x1 x3 x4 x5 = some o → Le h o.2) {h : Hp} {x0 : Nat} {x1 : Int32} {x3 : Int32} {x5 : Int32} {x6 : Int32} {x7 : Int32} (hE : sX15_layState_111 F k_27 h x0 x1 x3 x5 x6 x7 = some o) : Le h o.2 := by
  obtain ⟨r_1, er_1, hE⟩ := cl_e hE
  obtain ⟨r_2, er_2, hE⟩ := cl_e hE
  obtain ⟨g_3, hE⟩ := gd_e hE
  obtain ⟨h_4, eh_4, hE⟩ := nm_e2 hE
  refine (le_I eh_4).tr ?_
  obtain ⟨v_5, ev_5, hE⟩ := nm_e2 hE
  exact mk_27 _ _ _ _ _ _ hE
set_option maxRecDepth 20000 in
theorem moX15_layState_27 {o : Int32 × Hp} {F : Nat} : ∀ (f : Nat) {h : Hp} {x0 : Nat} {x1 : Int32} {x3 : Int32} {x4 : Int32} {x5 : Int32}, sX15_layState_27 F f h x0 x1 x3 x4 x5 = some o → Le h o.2 := by
  intro f
  induction f with
  | zero =>
    intro h x0 x1 x3 x4 x5 hE
    rw [sX15_layState_27] at hE
    cases hE
  | succ f ih =>
    intro h x0 x1 x3 x4 x5 hE
    rw [sX15_layState_27] at hE
    have mk_27 : ∀ (h : Hp) (x0 : Nat) (x1 : Int32) (x3 : Int32) (x4 : Int32) (x5 : Int32), sX15_layState_27 F f h x0 x1 x3 x4 x5 = some o → Le h o.2 := fun h x0 x1 x3 x4 x5 hE => ih hE
    obtain ⟨r_1, er_1, hE⟩ := cl_e hE
    obtain ⟨g_2, hE⟩ := gd_e hE
    rcases br_e hE with ⟨_, hE⟩ | ⟨_, hE⟩
    · first | exact le_some2 hE | exact le_some1 hE
    · obtain ⟨g_4, hE⟩ := gd_e hE
      obtain ⟨v_5, ev_5, hE⟩ := nm_e2 hE
      obtain ⟨g_6, hE⟩ := gd_e hE
      obtain ⟨v_7, ev_7, hE⟩ := nm_e2 hE
      obtain ⟨r_8, er_8, hE⟩ := cl_e hE
      obtain ⟨g_9, hE⟩ := gd_e hE
      obtain ⟨v_10, ev_10, hE⟩ := nm_e2 hE
      obtain ⟨r_11, er_11, hE⟩ := cl_e hE
      obtain ⟨r_12, er_12, hE⟩ := cl_e hE
      obtain ⟨g_13, hE⟩ := gd_e hE
      rcases br_e hE with ⟨_, hE⟩ | ⟨_, hE⟩
      · exact moX15_layState_109 hE
      · rcases br_e hE with ⟨_, hE⟩ | ⟨_, hE⟩
        · exact moX15_layState_111 mk_27 hE
        · obtain ⟨r_16, er_16, hE⟩ := cl_e hE
          obtain ⟨g_17, hE⟩ := gd_e hE
          rcases br_e hE with ⟨_, hE⟩ | ⟨_, hE⟩
          · rcases br_e hE with ⟨_, hE⟩ | ⟨_, hE⟩
            · exact moX15_layState_111 mk_27 hE
            · exact moX15_layState_109 hE
          · exact moX15_layState_111 mk_27 hE
set_option maxRecDepth 20000 in
theorem moX15_layState {o : Int32 × Hp} {F : Nat} {h : Hp} {x0 : Nat} {x1 : Int32} {x2 : Int32} (hE : sX15_layState F h x0 x1 x2 = some o) : Le h o.2 := by
  obtain ⟨r_1, er_1, hE⟩ := cl_e hE
  obtain ⟨o_2, eo_2, hE⟩ := cl_e hE
  refine (moX12_clear eo_2).tr ?_
  obtain ⟨r_3, er_3, hE⟩ := cl_e hE
  obtain ⟨h_4, eh_4, hE⟩ := nm_e2 hE
  refine (le_I eh_4).tr ?_
  obtain ⟨v_5, ev_5, hE⟩ := nm_e2 hE
  exact moX15_layState_27 _ hE
set_option maxRecDepth 20000 in
theorem bX15_layState_109 {p : Program} {l : Launch} {e : Env} {s : State} {m : MethodId} {args : Array Value} {below : List Frame} {meth : Method} {c : Code} {X : Ec} {h0 : Hp} {o : Int32 × Hp} {F : Nat} (C : Cx X p s m args meth c RX15 cX15_layState 8 (some .boolean) "layState") {h : Hp} {H : Heap} {locs : List Loc} (hkm : Km h0 h) (hW : Wx X h H) (hZ : va_S (aA (eB X)) s.heap H locs) (ls : Array Slot) (hl : lv_has ls 8 []) (hE : sX15_layState_109 F h  = some o) : W p l e (rm 1 21) s m args below meth c H locs 0 0 (MQ below (QI X h0 o.1 o.2) args s 0 0 (aA (eB X))) (F0 m 109 ls []) := by
  refine lv_iconst (v := (0 : Int32)) C.1 C.2.1 dX15_layState_109 (by decide) ?_
  exact x_iret C rfl (by decide) hW hZ hkm hE dX15_layState_110
set_option maxRecDepth 20000 in
theorem bX15_layState_111 {p : Program} {l : Launch} {e : Env} {s : State} {m : MethodId} {args : Array Value} {below : List Frame} {meth : Method} {c : Code} {X : Ec} {h0 : Hp} {o : Int32 × Hp} {k_27 : Hp → Nat → Int32 → Int32 → Int32 → Int32 → Option (Int32 × Hp)} {F : Nat} (C : Cx X p s m args meth c RX15 cX15_layState 8 (some .boolean) "layState") (hk_27 : ∀ (h : Hp) (x0 : Nat) (x1 : Int32) (x3 : Int32) (x4 : Int32) (x5 : Int32) (H : Heap) (locs : List Loc), hK h x0 = 15 → Km h0 h → Wx X h H → va_S (aA (eB X)) s.heap H locs → ∀ (ls : Array Slot), lv_has ls 8 [(0, .ref x0), (1, .int x1), (3, .int x3), (4, .int x4), (5, .int x5)] → k_27 h x0 x1 x3 x4 x5 = some o → W p l e (rm 1 21) s m args below meth c H locs 0 0 (MQ below (QI X h0 o.1 o.2) args s 0 0 (aA (eB X))) (F0 m 27 ls [])) {h : Hp} {x0 : Nat} {x1 : Int32} {x3 : Int32} {x5 : Int32} {x6 : Int32} {x7 : Int32} {H : Heap} {locs : List Loc} (k_x0 : hK h x0 = 15) (hkm : Km h0 h) (hW : Wx X h H) (hZ : va_S (aA (eB X)) s.heap H locs) (ls : Array Slot) (hl : lv_has ls 8 [(0, .ref x0), (1, .int x1), (3, .int x3), (5, .int x5), (6, .int x6), (7, .int x7)]) (hE : sX15_layState_111 F k_27 h x0 x1 x3 x5 x6 x7 = some o) : W p l e (rm 1 21) s m args below meth c H locs 0 0 (MQ below (QI X h0 o.1 o.2) args s 0 0 (aA (eB X))) (F0 m 111 ls []) := by
  refine lv_aload_n C.1 C.2.1 dX15_layState_111 rfl (lv_at hl 0 rfl) ?_
  obtain ⟨r_1, er_1, hE⟩ := cl_e hE
  refine gf_X15_365 C hW k_x0 er_1 dX15_layState_112 (fun k_r_1 => ?_)
  obtain ⟨r_2, er_2, hE⟩ := cl_e hE
  refine gf_X15_396 C hW k_r_1 er_2 dX15_layState_115 (fun k_r_2 => ?_)
  refine lv_iload C.1 C.2.1 dX15_layState_118 (lv_at hl 4 rfl) ?_
  refine lv_iload C.1 C.2.1 dX15_layState_120 (lv_at hl 5 rfl) ?_
  obtain ⟨g_3, hE⟩ := gd_e hE
  obtain ⟨h_4, eh_4, hE⟩ := nm_e2 hE
  refine y_iast C hW hZ k_r_2 g_3 eh_4 dX15_layState_122 (fun _ _ hW km hZ => ?_)
  replace hkm := hkm.tr km
  replace k_x0 := km.at k_x0 (by decide)
  refine lv_iload C.1 C.2.1 dX15_layState_123 (lv_at hl 4 rfl) ?_
  refine lv_istore (lv' := [(4, .int x6), (0, .ref x0), (1, .int x1), (3, .int x3), (5, .int x5), (6, .int x6), (7, .int x7)]) C.1 C.2.1 dX15_layState_125 hl (by decide) rfl (fun ls hl => ?_)
  obtain ⟨v_5, ev_5, hE⟩ := nm_e2 hE
  refine lv_iinc (v := v_5) (lv' := [(5, .int v_5), (4, .int x6), (0, .ref x0), (1, .int x1), (3, .int x3), (6, .int x6), (7, .int x7)]) C.1 C.2.1 dX15_layState_127 hl (k := 4) rfl (by rw [ev_5]; rfl) (by decide) rfl (fun ls hl => ?_)
  refine lv_goto (tgt := 27) C.1 C.2.1 dX15_layState_130 (by decide) ?_
  exact hk_27 _ _ _ _ _ _ _ _ k_x0 hkm hW hZ _ (lv_sub hl [2, 3, 4, 1, 0] rfl) hE
set_option maxRecDepth 20000 in
theorem bX15_layState_27 {p : Program} {l : Launch} {e : Env} {s : State} {m : MethodId} {args : Array Value} {below : List Frame} {meth : Method} {c : Code} {X : Ec} {h0 : Hp} {o : Int32 × Hp} {F : Nat} (C : Cx X p s m args meth c RX15 cX15_layState 8 (some .boolean) "layState") : ∀ (f : Nat) {h : Hp} {x0 : Nat} {x1 : Int32} {x3 : Int32} {x4 : Int32} {x5 : Int32} {H : Heap} {locs : List Loc} (k_x0 : hK h x0 = 15), Km h0 h → Wx X h H → va_S (aA (eB X)) s.heap H locs → ∀ (ls : Array Slot), lv_has ls 8 [(0, .ref x0), (1, .int x1), (3, .int x3), (4, .int x4), (5, .int x5)] → sX15_layState_27 F f h x0 x1 x3 x4 x5 = some o → W p l e (rm 1 21) s m args below meth c H locs 0 0 (MQ below (QI X h0 o.1 o.2) args s 0 0 (aA (eB X))) (F0 m 27 ls []) := by
  intro f
  induction f with
  | zero =>
    intro h x0 x1 x3 x4 x5 H locs k_x0 hkm hW hZ ls hl hE
    rw [sX15_layState_27] at hE
    cases hE
  | succ f ih =>
    intro h x0 x1 x3 x4 x5 H locs k_x0 hkm hW hZ ls hl hE
    rw [sX15_layState_27] at hE
    have hk_27 : ∀ (h : Hp) (x0 : Nat) (x1 : Int32) (x3 : Int32) (x4 : Int32) (x5 : Int32) (H : Heap) (locs : List Loc), hK h x0 = 15 → Km h0 h → Wx X h H → va_S (aA (eB X)) s.heap H locs → ∀ (ls : Array Slot), lv_has ls 8 [(0, .ref x0), (1, .int x1), (3, .int x3), (4, .int x4), (5, .int x5)] → sX15_layState_27 F f h x0 x1 x3 x4 x5 = some o → W p l e (rm 1 21) s m args below meth c H locs 0 0 (MQ below (QI X h0 o.1 o.2) args s 0 0 (aA (eB X))) (F0 m 27 ls []) := fun h x0 x1 x3 x4 x5 H locs k_x0 a b c ls hl hE => ih k_x0 a b c ls hl hE
    refine lv_iload C.1 C.2.1 dX15_layState_27 (lv_at hl 4 rfl) ?_
    refine lv_aload_n C.1 C.2.1 dX15_layState_29 rfl (lv_at hl 0 rfl) ?_
    obtain ⟨r_1, er_1, hE⟩ := cl_e hE
    refine gf_X15_333 C hW k_x0 er_1 dX15_layState_30 (fun k_r_1 => ?_)
    refine lv_iload_n C.1 C.2.1 dX15_layState_33 rfl (lv_at hl 1 rfl) ?_
    obtain ⟨g_2, hE⟩ := gd_e hE
    refine y_iald C hW k_r_1 g_2 dX15_layState_34 ?_
    refine lv_icmp_ge (tgt := 133) C.1 C.2.1 dX15_layState_35 (by decide) (fun c_3 => ?_) (fun c_3 => ?_)
    · have hE := br_p hE c_3
      refine lv_iconst (v := (1 : Int32)) C.1 C.2.1 dX15_layState_133 (by decide) ?_
      exact x_iret C rfl (by decide) hW hZ hkm hE dX15_layState_134
    · have hE := br_n hE c_3
      refine lv_iload_n C.1 C.2.1 dX15_layState_38 rfl (lv_at hl 2 rfl) ?_
      refine lv_aload_n C.1 C.2.1 dX15_layState_39 rfl (lv_at hl 0 rfl) ?_
      refine gf_X15_384 C hW k_x0 dX15_layState_40 ?_
      obtain ⟨g_4, hE⟩ := gd_e hE
      refine lv_irem C.1 C.2.1 dX15_layState_43 g_4 ?_
      obtain ⟨v_5, ev_5, hE⟩ := nm_e2 hE
      refine x_nmI ev_5 ?_
      refine lv_istore (lv' := [(6, .int v_5), (0, .ref x0), (1, .int x1), (3, .int x3), (4, .int x4), (5, .int x5)]) C.1 C.2.1 dX15_layState_44 hl (by decide) rfl (fun ls hl => ?_)
      refine lv_iload_n C.1 C.2.1 dX15_layState_46 rfl (lv_at hl 3 rfl) ?_
      refine lv_aload_n C.1 C.2.1 dX15_layState_47 rfl (lv_at hl 1 rfl) ?_
      refine gf_X15_384 C hW k_x0 dX15_layState_48 ?_
      obtain ⟨g_6, hE⟩ := gd_e hE
      refine lv_idiv C.1 C.2.1 dX15_layState_51 g_6 ?_
      obtain ⟨v_7, ev_7, hE⟩ := nm_e2 hE
      refine x_nmI ev_7 ?_
      refine lv_istore_n (lv' := [(3, .int v_7), (6, .int v_5), (0, .ref x0), (1, .int x1), (4, .int x4), (5, .int x5)]) C.1 C.2.1 dX15_layState_52 rfl hl (by decide) rfl (fun ls hl => ?_)
      refine lv_aload_n C.1 C.2.1 dX15_layState_53 rfl (lv_at hl 2 rfl) ?_
      obtain ⟨r_8, er_8, hE⟩ := cl_e hE
      refine gf_X15_336 C hW k_x0 er_8 dX15_layState_54 (fun k_r_8 => ?_)
      refine lv_iconst (v := (5 : Int32)) C.1 C.2.1 dX15_layState_57 (by decide) ?_
      refine lv_iload_n C.1 C.2.1 dX15_layState_58 rfl (lv_at hl 3 rfl) ?_
      refine lv_imul C.1 C.2.1 dX15_layState_59 ?_
      refine lv_iload C.1 C.2.1 dX15_layState_60 (lv_at hl 5 rfl) ?_
      refine lv_iadd C.1 C.2.1 dX15_layState_62 ?_
      obtain ⟨g_9, hE⟩ := gd_e hE
      refine y_iald C hW k_r_8 g_9 dX15_layState_63 ?_
      obtain ⟨v_10, ev_10, hE⟩ := nm_e2 hE
      refine x_nmI ev_10 ?_
      refine lv_istore (lv' := [(7, .int v_10), (3, .int v_7), (6, .int v_5), (0, .ref x0), (1, .int x1), (4, .int x4), (5, .int x5)]) C.1 C.2.1 dX15_layState_64 hl (by decide) rfl (fun ls hl => ?_)
      refine lv_aload_n C.1 C.2.1 dX15_layState_66 rfl (lv_at hl 3 rfl) ?_
      obtain ⟨r_11, er_11, hE⟩ := cl_e hE
      refine gf_X15_365 C hW k_x0 er_11 dX15_layState_67 (fun k_r_11 => ?_)
      obtain ⟨r_12, er_12, hE⟩ := cl_e hE
      refine gf_X15_396 C hW k_r_11 er_12 dX15_layState_70 (fun k_r_12 => ?_)
      refine lv_iload C.1 C.2.1 dX15_layState_73 (lv_at hl 2 rfl) ?_
      obtain ⟨g_13, hE⟩ := gd_e hE
      refine y_iald C hW k_r_12 g_13 dX15_layState_75 ?_
      refine lv_if_gt (tgt := 109) C.1 C.2.1 dX15_layState_76 (by decide) (fun c_14 => ?_) (fun c_14 => ?_)
      · have hE := br_p hE c_14
        exact bX15_layState_109 C hkm hW hZ _ (lv_sub hl [] rfl) hE
      · have hE := br_n hE c_14
        refine lv_iload C.1 C.2.1 dX15_layState_79 (lv_at hl 6 rfl) ?_
        refine lv_if_le (tgt := 111) C.1 C.2.1 dX15_layState_81 (by decide) (fun c_15 => ?_) (fun c_15 => ?_)
        · have hE := br_p hE c_15
          exact bX15_layState_111 C hk_27 k_x0 hkm hW hZ _ (lv_sub hl [3, 4, 1, 6, 2, 0] rfl) hE
        · have hE := br_n hE c_15
          refine lv_aload_n C.1 C.2.1 dX15_layState_84 rfl (lv_at hl 3 rfl) ?_
          obtain ⟨r_16, er_16, hE⟩ := cl_e hE
          refine gf_X15_336 C hW k_x0 er_16 dX15_layState_85 (fun k_r_16 => ?_)
          refine lv_iconst (v := (5 : Int32)) C.1 C.2.1 dX15_layState_88 (by decide) ?_
          refine lv_iload_n C.1 C.2.1 dX15_layState_89 rfl (lv_at hl 4 rfl) ?_
          refine lv_imul C.1 C.2.1 dX15_layState_90 ?_
          refine lv_iload C.1 C.2.1 dX15_layState_91 (lv_at hl 6 rfl) ?_
          refine lv_iadd C.1 C.2.1 dX15_layState_93 ?_
          refine lv_iconst (v := (1 : Int32)) C.1 C.2.1 dX15_layState_94 (by decide) ?_
          refine lv_isub C.1 C.2.1 dX15_layState_95 ?_
          obtain ⟨g_17, hE⟩ := gd_e hE
          refine y_iald C hW k_r_16 g_17 dX15_layState_96 ?_
          refine lv_iload C.1 C.2.1 dX15_layState_97 (lv_at hl 0 rfl) ?_
          refine lv_icmp_ne (tgt := 111) C.1 C.2.1 dX15_layState_99 (by decide) (fun c_18 => ?_) (fun c_18 => ?_)
          · have hE := br_n hE c_18
            exact bX15_layState_111 C hk_27 k_x0 hkm hW hZ _ (lv_sub hl [3, 4, 1, 6, 2, 0] rfl) hE
          · have hE := br_p hE c_18
            refine lv_iload C.1 C.2.1 dX15_layState_102 (lv_at hl 2 rfl) ?_
            refine lv_iload C.1 C.2.1 dX15_layState_104 (lv_at hl 5 rfl) ?_
            refine lv_icmp_ge (tgt := 111) C.1 C.2.1 dX15_layState_106 (by decide) (fun c_19 => ?_) (fun c_19 => ?_)
            · have hE := br_p hE c_19
              exact bX15_layState_111 C hk_27 k_x0 hkm hW hZ _ (lv_sub hl [3, 4, 1, 6, 2, 0] rfl) hE
            · have hE := br_n hE c_19
              exact bX15_layState_109 C hkm hW hZ _ (lv_sub hl [] rfl) hE
set_option maxRecDepth 20000 in
theorem ct_X15_layState (l : Launch) (X : Ec) (F : Nat) {h : Hp} {x0 : Nat} {x1 : Int32} {x2 : Int32} {o : Int32 × Hp} (k_x0 : hK h x0 = 15) (hE : sX15_layState F h x0 x1 x2 = some o) : MetI l yX15_layState cX15_layState 8 (some .boolean) 1 21 X [.ref x0, .int x1, .int x2] h o := by
  refine x_met (by decide) (Nat.le_of_ble_eq_true rfl) ?_
  intro p e s m below meth c ls C hl hW hZ
  have hl : lv_has ls 8 [(0, .ref x0), (1, .int x1), (2, .int x2)] := hl
  have hkm : Km h h := Km.rf h
  refine lv_aload_n C.1 C.2.1 dX15_layState_0 rfl (lv_at hl 0 rfl) ?_
  obtain ⟨r_1, er_1, hE⟩ := cl_e hE
  refine gf_X15_365 C hW k_x0 er_1 dX15_layState_1 (fun k_r_1 => ?_)
  obtain ⟨o_2, eo_2, hE⟩ := cl_e hE
  refine x_kV (o := o_2) (z_runV (As := []) (rest := []) C (ct_X12_clear l X F k_r_1 eo_2) cw_X15_455 hW hZ k_r_1 (by decide) rfl rfl rfl hl.1 (Nat.le_of_ble_eq_true rfl) rfl dX15_layState_4 ⟨Nat.le_of_ble_eq_true rfl, Nat.le_of_ble_eq_true rfl⟩ ⟨Nat.le_refl _, Nat.le_refl _⟩) hZ (fun _ _ hW km hZ => ?_)
  replace hkm := hkm.tr km
  replace k_x0 := km.at k_x0 (by decide)
  refine lv_aload_n C.1 C.2.1 dX15_layState_7 rfl (lv_at hl 0 rfl) ?_
  obtain ⟨r_3, er_3, hE⟩ := cl_e hE
  refine gf_X15_365 C hW k_x0 er_3 dX15_layState_8 (fun k_r_3 => ?_)
  refine lv_iload_n C.1 C.2.1 dX15_layState_11 rfl (lv_at hl 2 rfl) ?_
  refine lv_iconst (v := (1 : Int32)) C.1 C.2.1 dX15_layState_12 (by decide) ?_
  refine lv_iand C.1 C.2.1 dX15_layState_13 ?_
  obtain ⟨h_4, eh_4, hE⟩ := nm_e2 hE
  refine pf_X15_452 C hW hZ k_r_3 eh_4 dX15_layState_14 (fun _ _ hW km hZ => ?_)
  replace hkm := hkm.tr km
  replace k_x0 := km.at k_x0 (by decide)
  refine lv_iload_n C.1 C.2.1 dX15_layState_17 rfl (lv_at hl 2 rfl) ?_
  refine lv_iconst (v := (1 : Int32)) C.1 C.2.1 dX15_layState_18 (by decide) ?_
  refine lv_ishr C.1 C.2.1 dX15_layState_19 ?_
  obtain ⟨v_5, ev_5, hE⟩ := nm_e2 hE
  refine x_nmI ev_5 ?_
  refine lv_istore_n (lv' := [(3, .int v_5), (0, .ref x0), (1, .int x1), (2, .int x2)]) C.1 C.2.1 dX15_layState_20 rfl hl (by decide) rfl (fun ls hl => ?_)
  refine lv_iconst (v := (-1 : Int32)) C.1 C.2.1 dX15_layState_21 (by decide) ?_
  refine lv_istore (lv' := [(4, .int (-1 : Int32)), (3, .int v_5), (0, .ref x0), (1, .int x1), (2, .int x2)]) C.1 C.2.1 dX15_layState_22 hl (by decide) rfl (fun ls hl => ?_)
  refine lv_iconst (v := (0 : Int32)) C.1 C.2.1 dX15_layState_24 (by decide) ?_
  refine lv_istore (lv' := [(5, .int (0 : Int32)), (4, .int (-1 : Int32)), (3, .int v_5), (0, .ref x0), (1, .int x1), (2, .int x2)]) C.1 C.2.1 dX15_layState_25 hl (by decide) rfl (fun ls hl => ?_)
  exact bX15_layState_27 C F k_x0 hkm hW hZ _ (lv_sub hl [3, 4, 2, 1, 0] rfl) hE

