set_option maxRecDepth 20000 in
theorem zX15_layState_111 {ρ : Nat → Nat} {c : Cm} {F : Nat} (hF : 700000 ≤ F) {k_27 : Hp → Nat → Int32 → Int32 → Int32 → Int32 → Option (Int32 × Hp)} {C_27 : Int} (hk_27 : ∀ {h : Hp} {x0 : Nat} {x1 : Int32} {x3 : Int32} {x4 : Int32} {x5 : Int32}, TH ρ c h → ρ x0 = 16 → Rg (0) (4095) (x1) → Rg (0) (1073741823) (x3) → Rg (-1) (63) (x4) → Rg (0) (5) (x5) → C_27 < x5.toInt → Sat (k_27 h x0 x1 x3 x4 x5) (ZI ρ c (0) (1))) (hi_2560 : pmO c 2560 [(62, 999)]) {h : Hp} {x0 : Nat} {x1 : Int32} {x3 : Int32} {x5 : Int32} {x6 : Int32} {x7 : Int32} (T : TH ρ c h) (r_x0 : ρ x0 = 16) (i_x1 : Rg (0) (4095) (x1)) (i_x3 : Rg (0) (119304647) (x3)) (i_x5 : Rg (0) (4) (x5)) (i_x6 : Rg (0) (63) (x6)) (i_x7 : Rg (0) (24) (x7)) (hc_27 : C_27 ≤ x5.toInt) : Sat (sX15_layState_111 F k_27 h x0 x1 x3 x5 x6 x7) (ZI ρ c (0) (1)) := by
  unfold sX15_layState_111 
  obtain ⟨r_1, e_r_1, q_r_1⟩ := thR T r_x0 (k := 16) (i := 60) (k2 := 13) rfl (by decide)
  refine s_ref e_r_1 ?_
  obtain ⟨r_2, e_r_2, q_r_2⟩ := thR T q_r_1 (k := 13) (i := 0) (k2 := 62) rfl (by decide)
  refine s_ref e_r_2 ?_
  refine s_gd (by rw [thN T q_r_2 (k := 62) (n := 64) rfl (by decide)]; exact rg_inB (i_x6 : Rg (0) (63) (x6)) (by decide)) ?_
  refine s_hq (th_wI T q_r_2 (k := 62) (lo := (0)) (hi := (24)) rfl (i_x7 : Rg (0) (24) (x7)) (by decide) (by decide) (pm_o hi_2560 (th_ih T q_r_1 (k := 13) rfl e_r_2 (th_id T r_x0 (k := 16) (i := 60) (w := 2560) e_r_1 rfl (by decide))) rfl)) (fun h_4 T_1 w_2 => ?_)
  refine s_q (fun v_5 e_3 => ?_)
  have i_v_5 : Rg (1) (5) (v_5) := by rw [e_3]; exact (rg_add i_x5 (rg_b rfl : Rg (1) (1) ((1 : Int32))) (by decide) : Rg (1) (5) (x5 + (1 : Int32)))
  have m_4 : (v_5).toInt = x5.toInt + 1 := by rw [e_3]; exact rg_inc i_x5 (by decide)
  exact hk_27 T_1 r_x0 i_x1 (rg_m i_x3 (by decide)) (rg_m i_x6 (by decide)) (rg_m i_v_5 (by decide)) (by have := hc_27; omega)
set_option maxRecDepth 20000 in
theorem zX15_layState_27 {ρ : Nat → Nat} {c : Cm} {F : Nat} (hF : 700000 ≤ F) (hi_2560 : pmO c 2560 [(62, 999)]) : ∀ (f : Nat) {h : Hp} {x0 : Nat} {x1 : Int32} {x3 : Int32} {x4 : Int32} {x5 : Int32}, TH ρ c h → ρ x0 = 16 → Rg (0) (4095) (x1) → Rg (0) (1073741823) (x3) → Rg (-1) (63) (x4) → Rg (0) (5) (x5) → (5 - x5.toInt).toNat < f → Sat (sX15_layState_27 F f h x0 x1 x3 x4 x5) (ZI ρ c (0) (1)) := by
  intro f
  induction f with
  | zero => intros; omega
  | succ f ih =>
    intro h x0 x1 x3 x4 x5 T r_x0 i_x1 i_x3 i_x4 i_x5 hm
    rw [sX15_layState_27]
    unfold sX15_layState_109
    obtain ⟨C_27, hC_27⟩ : ∃ C : Int, C = x5.toInt := ⟨_, rfl⟩
    have hk_27 : ∀ {h : Hp} {x0 : Nat} {x1 : Int32} {x3 : Int32} {x4 : Int32} {x5 : Int32}, TH ρ c h → ρ x0 = 16 → Rg (0) (4095) (x1) → Rg (0) (1073741823) (x3) → Rg (-1) (63) (x4) → Rg (0) (5) (x5) → C_27 < x5.toInt → Sat (sX15_layState_27 F f h x0 x1 x3 x4 x5) (ZI ρ c (0) (1)) := by
      intro h' x0' x1' x3' x4' x5' T' r_x0' i_x1' i_x3' i_x4' i_x5' hl
      exact ih T' r_x0' i_x1' i_x3' i_x4' i_x5' (by have := i_x5'.1; have := i_x5'.2; omega)
    have hc_27 : C_27 ≤ x5.toInt := by omega
    obtain ⟨r_1, e_r_1, q_r_1⟩ := thR T r_x0 (k := 16) (i := 46) (k2 := 99) rfl (by decide)
    refine s_ref e_r_1 ?_
    refine s_gd (by rw [thN T q_r_1 (k := 99) (n := 4096) rfl (by decide)]; exact rg_inB (i_x1 : Rg (0) (4095) (x1)) (by decide)) ?_
    refine s_br (fun c_1 => ?_) (fun c_1 => ?_)
    · have _ := c_1
      exact s_some ⟨(T), (rg_m (rg_b rfl : Rg (1) (1) ((1 : Int32))) (by decide))⟩
    · have _ := c_1
      have i_f_2 : Rg (0) (4) (x5) := rg_lt1 (nle_lt c_1) i_x5 (thI T q_r_1 (k := 99) rfl : Rg (0) (5) ((hI h r_1 x1.toNatClampNeg)))
      have i_f_3 : Rg (1) (5) ((hI h r_1 x1.toNatClampNeg)) := rg_lt2 (nle_lt c_1) i_x5 (thI T q_r_1 (k := 99) rfl : Rg (0) (5) ((hI h r_1 x1.toNatClampNeg)))
      refine s_gd (rg_ne0 (thI T r_x0 (k := 16) (i := 13) rfl : Rg (9) (64) ((hI h x0 13))) (by decide)) ?_
      refine s_q (fun v_5 e_4 => ?_)
      have i_v_5 : Rg (0) (63) (v_5) := by rw [e_4]; exact (rg_rem i_x3 (thI T r_x0 (k := 16) (i := 13) rfl : Rg (9) (64) ((hI h x0 13))) (by decide) : Rg (0) (63) (x3 - x3 / (hI h x0 13) * (hI h x0 13)))
      refine s_gd (rg_ne0 (thI T r_x0 (k := 16) (i := 13) rfl : Rg (9) (64) ((hI h x0 13))) (by decide)) ?_
      refine s_q (fun v_7 e_5 => ?_)
      have i_v_7 : Rg (0) (119304647) (v_7) := by rw [e_5]; exact (rg_divw i_x3 (thI T r_x0 (k := 16) (i := 13) rfl : Rg (9) (64) ((hI h x0 13))) (by decide) : Rg (0) (119304647) (x3 / (hI h x0 13)))
      obtain ⟨r_8, e_r_8, q_r_8⟩ := thR T r_x0 (k := 16) (i := 47) (k2 := 100) rfl (by decide)
      refine s_ref e_r_8 ?_
      refine s_gd (by rw [thN T q_r_8 (k := 100) (n := 20480) rfl (by decide)]; exact rg_inB ((rg_add (rg_mulc' (rg_b rfl : Rg (5) (5) ((5 : Int32))) i_x1 (by decide) : Rg (0) (20475) (((5 : Int32) * x1))) i_f_2 (by decide) : Rg (0) (20479) ((((5 : Int32) * x1) + x5))) : Rg (0) (20479) ((((5 : Int32) * x1) + x5))) (by decide)) ?_
      refine s_q (fun v_10 e_6 => ?_)
      have i_v_10 : Rg (0) (24) (v_10) := by rw [e_6]; exact (thI T q_r_8 (k := 100) rfl : Rg (0) (24) (hI h r_8 (((5 : Int32) * x1) + x5).toNatClampNeg))
      obtain ⟨r_11, e_r_11, q_r_11⟩ := thR T r_x0 (k := 16) (i := 60) (k2 := 13) rfl (by decide)
      refine s_ref e_r_11 ?_
      obtain ⟨r_12, e_r_12, q_r_12⟩ := thR T q_r_11 (k := 13) (i := 0) (k2 := 62) rfl (by decide)
      refine s_ref e_r_12 ?_
      refine s_gd (by rw [thN T q_r_12 (k := 62) (n := 64) rfl (by decide)]; exact rg_inB (i_v_5 : Rg (0) (63) (v_5)) (by decide)) ?_
      refine s_br (fun c_7 => ?_) (fun c_7 => ?_)
      · have _ := c_7
        have i_f_8 : Rg (1) (24) ((hI h r_12 v_5.toNatClampNeg)) := rg_lt2 c_7 (rg_b rfl : Rg (0) (0) (0 : Int32)) (thI T q_r_12 (k := 62) rfl : Rg (0) (24) ((hI h r_12 v_5.toNatClampNeg)))
        exact s_some ⟨(T), (rg_m (rg_b rfl : Rg (0) (0) ((0 : Int32))) (by decide))⟩
      · have _ := c_7
        have i_f_9 : Rg (0) (0) ((hI h r_12 v_5.toNatClampNeg)) := rg_le1 (nlt_le c_7) (thI T q_r_12 (k := 62) rfl : Rg (0) (24) ((hI h r_12 v_5.toNatClampNeg))) (rg_b rfl : Rg (0) (0) (0 : Int32))
        refine s_br (fun c_10 => ?_) (fun c_10 => ?_)
        · have _ := c_10
          have i_f_11 : Rg (0) (0) (x5) := rg_le1 c_10 i_f_2 (rg_b rfl : Rg (0) (0) (0 : Int32))
          exact zX15_layState_111 hF @hk_27 (pmO_s hi_2560 rfl) T r_x0 i_x1 i_v_7 (rg_m i_f_11 (by decide)) i_v_5 i_v_10 hc_27
        · have _ := c_10
          have i_f_12 : Rg (1) (4) (x5) := rg_lt2 (nle_lt c_10) (rg_b rfl : Rg (0) (0) (0 : Int32)) i_f_2
          refine s_ref e_r_8 ?_
          refine s_gd (by rw [thN T q_r_8 (k := 100) (n := 20480) rfl (by decide)]; exact rg_inB ((rg_m (rg_sub (rg_add (rg_mulc' (rg_b rfl : Rg (5) (5) ((5 : Int32))) i_x1 (by decide) : Rg (0) (20475) (((5 : Int32) * x1))) i_f_12 (by decide) : Rg (1) (20479) ((((5 : Int32) * x1) + x5))) (rg_b rfl : Rg (1) (1) ((1 : Int32))) (by decide) : Rg (0) (20478) (((((5 : Int32) * x1) + x5) - (1 : Int32)))) (by decide)) : Rg (0) (20479) (((((5 : Int32) * x1) + x5) - (1 : Int32)))) (by decide)) ?_
          refine s_br (fun c_13 => ?_) (fun c_13 => ?_)
          · have _ := c_13
            refine s_br (fun c_14 => ?_) (fun c_14 => ?_)
            · have _ := c_14
              exact zX15_layState_111 hF @hk_27 (pmO_s hi_2560 rfl) T r_x0 i_x1 i_v_7 (rg_m i_f_12 (by decide)) i_v_5 i_v_10 hc_27
            · have _ := c_14
              have i_f_15 : Rg (0) (62) (v_5) := rg_lt1 (nle_lt c_14) i_v_5 i_x4
              have i_f_16 : Rg (1) (63) (x4) := rg_lt2 (nle_lt c_14) i_v_5 i_x4
              exact s_some ⟨(T), (rg_m (rg_b rfl : Rg (0) (0) ((0 : Int32))) (by decide))⟩
          · have _ := c_13
            exact zX15_layState_111 hF @hk_27 (pmO_s hi_2560 rfl) T r_x0 i_x1 i_v_7 (rg_m i_f_12 (by decide)) i_v_5 i_v_10 hc_27
set_option maxRecDepth 20000 in
theorem zX15_layState {ρ : Nat → Nat} {c : Cm} {F : Nat} (hF : 700000 ≤ F) (hi_2560 : pmO c 2560 [(62, 999), (64, 999), (65, 999), (13, 1), (13, 2), (13, 3), (13, 7)]) {h : Hp} {x0 : Nat} {x1 : Int32} {x2 : Int32} (T : TH ρ c h) (r_x0 : ρ x0 = 16) (i_x1 : Rg (0) (4095) (x1)) (i_x2 : Rg (0) (2147483646) (x2)) : Sat (sX15_layState F h x0 x1 x2) (ZI ρ c (0) (1)) := by
  unfold sX15_layState 
  obtain ⟨r_1, e_r_1, q_r_1⟩ := thR T r_x0 (k := 16) (i := 60) (k2 := 13) rfl (by decide)
  refine s_ref e_r_1 ?_
  refine s_cV (zX12_clear hF (pmO_s hi_2560 rfl) (th_id T r_x0 (k := 16) (i := 60) (w := 2560) e_r_1 rfl (by decide)) T q_r_1) (fun o_2 T_1 => ?_)
  obtain ⟨r_3, e_r_3, q_r_3⟩ := thR T_1 r_x0 (k := 16) (i := 60) (k2 := 13) rfl (by decide)
  refine s_ref e_r_3 ?_
  refine s_hq (th_wI T_1 q_r_3 (k := 13) (lo := (0)) (hi := (1)) rfl ((rg_and (rg_b rfl : Rg (1) (1) ((1 : Int32))) (by decide) : Rg (0) (1) ((x2 &&& (1 : Int32)))) : Rg (0) (1) ((x2 &&& (1 : Int32)))) (by decide) (by decide) (pm_o hi_2560 (th_id T_1 r_x0 (k := 16) (i := 60) (w := 2560) e_r_3 rfl (by decide)) rfl)) (fun h_4 T_2 w_3 => ?_)
  refine s_q (fun v_5 e_4 => ?_)
  have i_v_5 : Rg (0) (1073741823) (v_5) := by rw [e_4]; exact (rg_shrk 1 (by decide) i_x2 (by decide) : Rg (0) (1073741823) (x2 >>> ((1 : Int32) &&& 31)))
  have m_5 : Rg (0) (5) ((0 : Int32)) := (rg_m (rg_b rfl : Rg (0) (0) ((0 : Int32))) (by decide))
  exact zX15_layState_27 hF (pmO_s hi_2560 rfl) F T_2 r_x0 i_x1 i_v_5 (rg_m (rg_b rfl : Rg (-1) (-1) ((- 1 : Int32))) (by decide)) (rg_m (rg_b rfl : Rg (0) (0) ((0 : Int32))) (by decide)) (by have := m_5.1; have := m_5.2; omega)
set_option maxRecDepth 20000 in
theorem zX15_maskOf_11 {ρ : Nat → Nat} {c : Cm} {h0 : Hp} {F : Nat} (hF : 700000 ≤ F) : ∀ (f : Nat) {h : Hp} {x0 : Nat} {x1 : Int32} {x2 : Int32} {x3 : Int32} {x4 : Int32} {x5 : Int32} {x6 : Int32}, h = h0 → TH ρ c h → ρ x0 = 16 → Rg (0) (4095) (x1) → Rg (-2147483643) (2147483646) (x2) → Rg (-2147483648) (2147483647) (x3) → Rg (0) (1) (x4) → Rg (-2147483648) (2147483647) (x5) → Rg (0) (5) (x6) → (5 - x6.toInt).toNat < f → Sat (sX15_maskOf_11 F f h x0 x1 x2 x3 x4 x5 x6) (ZI0 h0 (-2147483648) (2147483647)) := by
  intro f
  induction f with
  | zero => intros; omega
  | succ f ih =>
    intro h x0 x1 x2 x3 x4 x5 x6 E T r_x0 i_x1 i_x2 i_x3 i_x4 i_x5 i_x6 hm
    rw [sX15_maskOf_11]
    unfold sX15_sideOf sX15_maskOf_60 sX15_maskOf_65 sX15_maskOf_64
    obtain ⟨C_11, hC_11⟩ : ∃ C : Int, C = x6.toInt := ⟨_, rfl⟩
    have hk_11 : ∀ {h : Hp} {x0 : Nat} {x1 : Int32} {x2 : Int32} {x3 : Int32} {x4 : Int32} {x5 : Int32} {x6 : Int32}, h = h0 → TH ρ c h → ρ x0 = 16 → Rg (0) (4095) (x1) → Rg (-2147483643) (2147483646) (x2) → Rg (-2147483648) (2147483647) (x3) → Rg (0) (1) (x4) → Rg (-2147483648) (2147483647) (x5) → Rg (0) (5) (x6) → C_11 < x6.toInt → Sat (sX15_maskOf_11 F f h x0 x1 x2 x3 x4 x5 x6) (ZI0 h0 (-2147483648) (2147483647)) := by
      intro h' x0' x1' x2' x3' x4' x5' x6' E' T' r_x0' i_x1' i_x2' i_x3' i_x4' i_x5' i_x6' hl
      exact ih E' T' r_x0' i_x1' i_x2' i_x3' i_x4' i_x5' i_x6' (by have := i_x6'.1; have := i_x6'.2; omega)
    have hc_11 : C_11 ≤ x6.toInt := by omega
    obtain ⟨r_1, e_r_1, q_r_1⟩ := thR T r_x0 (k := 16) (i := 46) (k2 := 99) rfl (by decide)
    refine s_ref e_r_1 ?_
    refine s_gd (by rw [thN T q_r_1 (k := 99) (n := 4096) rfl (by decide)]; exact rg_inB (i_x1 : Rg (0) (4095) (x1)) (by decide)) ?_
    refine s_br (fun c_1 => ?_) (fun c_1 => ?_)
    · have _ := c_1
      obtain ⟨r_4, e_r_4, q_r_4⟩ := thR T r_x0 (k := 16) (i := 53) (k2 := 104) rfl (by decide)
      refine s_ref e_r_4 ?_
      refine s_gd (by rw [thN T q_r_4 (k := 104) (n := 4096) rfl (by decide)]; exact rg_inB (i_x1 : Rg (0) (4095) (x1)) (by decide)) ?_
      refine s_ref e_r_1 ?_
      refine s_gd (by rw [thN T q_r_1 (k := 99) (n := 4096) rfl (by decide)]; exact rg_inB (i_x1 : Rg (0) (4095) (x1)) (by decide)) ?_
      exact s_some ⟨E, (rg_top _ : Rg (-2147483648) (2147483647) (((hI h r_4 x1.toNatClampNeg) + ((hI h r_1 x1.toNatClampNeg) * (x2 >>> ((1 : Int32) &&& 31)))) + x5))⟩
    · have _ := c_1
      have i_f_2 : Rg (0) (4) (x6) := rg_lt1 (nle_lt c_1) i_x6 (thI T q_r_1 (k := 99) rfl : Rg (0) (5) ((hI h r_1 x1.toNatClampNeg)))
      have i_f_3 : Rg (1) (5) ((hI h r_1 x1.toNatClampNeg)) := rg_lt2 (nle_lt c_1) i_x6 (thI T q_r_1 (k := 99) rfl : Rg (0) (5) ((hI h r_1 x1.toNatClampNeg)))
      obtain ⟨r_8, e_r_8, q_r_8⟩ := thR T r_x0 (k := 16) (i := 47) (k2 := 100) rfl (by decide)
      refine s_ref e_r_8 ?_
      refine s_gd (by rw [thN T q_r_8 (k := 100) (n := 20480) rfl (by decide)]; exact rg_inB ((rg_add (rg_mulc' (rg_b rfl : Rg (5) (5) ((5 : Int32))) i_x1 (by decide) : Rg (0) (20475) (((5 : Int32) * x1))) i_f_2 (by decide) : Rg (0) (20479) ((((5 : Int32) * x1) + x6))) : Rg (0) (20479) ((((5 : Int32) * x1) + x6))) (by decide)) ?_
      refine s_pu (fun o_10z e_4 => ?_)
      try dsimp only
      have i_o_10z : Rg (0) (1) (o_10z) := by rw [e_4]; exact (rg_and (rg_b rfl : Rg (1) (1) ((1 : Int32))) (by decide) : Rg (0) (1) (((hI h r_8 (((5 : Int32) * x1) + x6).toNatClampNeg) - (1 : Int32)) &&& (1 : Int32)))
      refine s_br (fun c_5 => ?_) (fun c_5 => ?_)
      · have _ := c_5
        have i_f_6 : Rg (0) (0) (o_10z) := rg_lt1 c_5 i_o_10z i_x4
        have i_f_7 : Rg (1) (1) (x4) := rg_lt2 c_5 i_o_10z i_x4
        refine s_q (fun v_1q2 e_8 => ?_)
        have i_v_1q2 : Rg (-2147483648) (2147483647) (v_1q2) := by rw [e_8]; exact (rg_top _ : Rg (-2147483648) (2147483647) (x5 + (1 : Int32)))
        refine s_q (fun v_2q2 e_9 => ?_)
        have i_v_2q2 : Rg (1) (5) (v_2q2) := by rw [e_9]; exact (rg_add i_f_2 (rg_b rfl : Rg (1) (1) ((1 : Int32))) (by decide) : Rg (1) (5) (x6 + (1 : Int32)))
        have m_10 : (v_2q2).toInt = x6.toInt + 1 := by rw [e_9]; exact rg_inc i_f_2 (by decide)
        exact hk_11 E T r_x0 i_x1 i_x2 i_x3 (rg_m i_f_7 (by decide)) i_v_1q2 (rg_m i_v_2q2 (by decide)) (by have := hc_11; omega)
      · have _ := c_5
        refine s_br (fun c_11 => ?_) (fun c_11 => ?_)
        · have _ := c_11
          refine s_br (fun c_12 => ?_) (fun c_12 => ?_)
          · have _ := c_12
            have i_f_13 : Rg (-2147483648) (4) (x3) := rg_le1 c_12 i_x3 i_f_2
            refine s_q (fun v_1q4 e_14 => ?_)
            have i_v_1q4 : Rg (-2147483648) (2147483647) (v_1q4) := by rw [e_14]; exact (rg_add i_x5 (rg_b rfl : Rg (0) (0) ((0 : Int32))) (by decide) : Rg (-2147483648) (2147483647) (x5 + (0 : Int32)))
            refine s_q (fun v_2q4 e_15 => ?_)
            have i_v_2q4 : Rg (1) (5) (v_2q4) := by rw [e_15]; exact (rg_add i_f_2 (rg_b rfl : Rg (1) (1) ((1 : Int32))) (by decide) : Rg (1) (5) (x6 + (1 : Int32)))
            have m_16 : (v_2q4).toInt = x6.toInt + 1 := by rw [e_15]; exact rg_inc i_f_2 (by decide)
            exact hk_11 E T r_x0 i_x1 i_x2 (rg_m i_f_13 (by decide)) i_x4 i_v_1q4 (rg_m i_v_2q4 (by decide)) (by have := hc_11; omega)
          · have _ := c_12
            have i_f_17 : Rg (1) (2147483647) (x3) := rg_lt2 (nle_lt c_12) i_f_2 i_x3
            refine s_q (fun v_1q6 e_18 => ?_)
            have i_v_1q6 : Rg (-2147483648) (2147483647) (v_1q6) := by rw [e_18]; exact (rg_top _ : Rg (-2147483648) (2147483647) (x5 + (1 : Int32)))
            refine s_q (fun v_2q6 e_19 => ?_)
            have i_v_2q6 : Rg (1) (5) (v_2q6) := by rw [e_19]; exact (rg_add i_f_2 (rg_b rfl : Rg (1) (1) ((1 : Int32))) (by decide) : Rg (1) (5) (x6 + (1 : Int32)))
            have m_20 : (v_2q6).toInt = x6.toInt + 1 := by rw [e_19]; exact rg_inc i_f_2 (by decide)
            exact hk_11 E T r_x0 i_x1 i_x2 (rg_m i_f_17 (by decide)) i_x4 i_v_1q6 (rg_m i_v_2q6 (by decide)) (by have := hc_11; omega)
        · have _ := c_11
          refine s_q (fun v_1q8 e_21 => ?_)
          have i_v_1q8 : Rg (-2147483648) (2147483647) (v_1q8) := by rw [e_21]; exact (rg_add i_x5 (rg_b rfl : Rg (0) (0) ((0 : Int32))) (by decide) : Rg (-2147483648) (2147483647) (x5 + (0 : Int32)))
          refine s_q (fun v_2q8 e_22 => ?_)
          have i_v_2q8 : Rg (1) (5) (v_2q8) := by rw [e_22]; exact (rg_add i_f_2 (rg_b rfl : Rg (1) (1) ((1 : Int32))) (by decide) : Rg (1) (5) (x6 + (1 : Int32)))
          have m_23 : (v_2q8).toInt = x6.toInt + 1 := by rw [e_22]; exact rg_inc i_f_2 (by decide)
          exact hk_11 E T r_x0 i_x1 i_x2 i_x3 i_x4 i_v_1q8 (rg_m i_v_2q8 (by decide)) (by have := hc_11; omega)
set_option maxRecDepth 20000 in
theorem zX15_maskOf {ρ : Nat → Nat} {c : Cm} {F : Nat} (hF : 700000 ≤ F) {h : Hp} {x0 : Nat} {x1 : Int32} {x2 : Int32} {x3 : Int32} (T : TH ρ c h) (r_x0 : ρ x0 = 16) (i_x1 : Rg (0) (4095) (x1)) (i_x2 : Rg (-2147483643) (2147483646) (x2)) (i_x3 : Rg (-2147483648) (2147483647) (x3)) : Sat (sX15_maskOf F h x0 x1 x2 x3) (ZI0 h (-2147483648) (2147483647)) := by
  unfold sX15_maskOf 
  refine s_q (fun v_1 e_1 => ?_)
  have i_v_1 : Rg (0) (1) (v_1) := by rw [e_1]; exact (rg_and (rg_b rfl : Rg (1) (1) ((1 : Int32))) (by decide) : Rg (0) (1) (x2 &&& (1 : Int32)))
  have m_2 : Rg (0) (5) ((0 : Int32)) := (rg_m (rg_b rfl : Rg (0) (0) ((0 : Int32))) (by decide))
  exact zX15_maskOf_11 hF F rfl T r_x0 i_x1 i_x2 i_x3 i_v_1 (rg_m (rg_b rfl : Rg (0) (0) ((0 : Int32))) (by decide)) (rg_m (rg_b rfl : Rg (0) (0) ((0 : Int32))) (by decide)) (by have := m_2.1; have := m_2.2; omega)
set_option maxRecDepth 20000 in
theorem zX15_drop {ρ : Nat → Nat} {c : Cm} {F : Nat} (hF : 700000 ≤ F) (hA : pmA c [(85, 999)]) {h : Hp} {x0 : Nat} {x1 : Int32} (T : TH ρ c h) (r_x0 : ρ x0 = 16) (i_x1 : Rg (-2147483648) (2147483647) (x1)) : Sat (sX15_drop h x0 x1) (ZI ρ c (-102) (1)) := by
  unfold sX15_drop 
  refine s_cP0 (zX15_has hF T r_x0 i_x1) (fun o_1 e_o_1 i_o_1 p_o_1 => ?_)
  have T_1 := th_eq e_o_1 T
  refine s_br (fun c_2 => ?_) (fun c_2 => ?_)
  · have _ := c_2
    have i_f_3 : Rg (0) (0) (o_1.1) := rg_eq c_2 (rg_b rfl : Rg (0) (0) (0 : Int32))
    exact s_some ⟨(T_1), (rg_m (rg_b rfl : Rg (-102) (-102) ((- 102 : Int32))) (by decide))⟩
  · have _ := c_2
    have i_f_4 : Rg (1) (1) (o_1.1) := rg_nlo c_2 i_o_1 (rg_b rfl : Rg (0) (0) (0 : Int32))
    have p_f_5 := p_o_1 c_2
    obtain ⟨r_3, e_r_3, q_r_3⟩ := thR T_1 r_x0 (k := 16) (i := 15) (k2 := 85) rfl (by decide)
    refine s_ref e_r_3 ?_
    refine s_gd (by rw [thN T_1 q_r_3 (k := 85) (n := 60) rfl (by decide)]; exact rg_inB (p_f_5 : Rg (0) (59) (x1)) (by decide)) ?_
    refine s_hq (th_wI T_1 q_r_3 (k := 85) (lo := (-2147483648)) (hi := (2147483647)) rfl ((rg_m (rg_b rfl : Rg (0) (0) ((0 : Int32))) (by decide)) : Rg (-2147483648) (2147483647) ((0 : Int32))) (by decide) (by decide) (pm_a hA rfl)) (fun h_5 T_6 w_7 => ?_)
    exact s_some ⟨(T_6), (rg_m (rg_b rfl : Rg (1) (1) ((1 : Int32))) (by decide))⟩
set_option maxRecDepth 20000 in
theorem zX15_end {ρ : Nat → Nat} {c : Cm} {F : Nat} (hF : 700000 ≤ F) (hA : pmA c [(16, 1)]) {h : Hp} {x0 : Nat} {x1 : Int32} (T : TH ρ c h) (r_x0 : ρ x0 = 16) (i_x1 : Rg (-2147483648) (2147483647) (x1)) : Sat (sX15_end h x0 x1) (ZI ρ c (-101) (1200)) := by
  unfold sX15_end sX15_end_12
  refine s_br (fun c_1 => ?_) (fun c_1 => ?_)
  · have _ := c_1
    have i_f_2 : Rg (-2147483648) (-1) (x1) := rg_lt1 c_1 i_x1 (rg_b rfl : Rg (0) (0) (0 : Int32))
    exact s_some ⟨(T), (rg_m (rg_b rfl : Rg (-101) (-101) ((- 101 : Int32))) (by decide))⟩
  · have _ := c_1
    have i_f_3 : Rg (0) (2147483647) (x1) := rg_le2 (nlt_le c_1) (rg_b rfl : Rg (0) (0) (0 : Int32)) i_x1
    refine s_br (fun c_4 => ?_) (fun c_4 => ?_)
    · have _ := c_4
      have i_f_5 : Rg (0) (1200) (x1) := rg_le1 c_4 i_f_3 (thI T r_x0 (k := 16) (i := 1) rfl : Rg (0) (1200) ((hI h x0 1)))
      refine s_hq (th_wI T r_x0 (k := 16) (lo := (0)) (hi := (1200)) rfl (i_f_5 : Rg (0) (1200) (x1)) (by decide) (by decide) (pm_a hA rfl)) (fun h_3 T_6 w_7 => ?_)
      exact s_some ⟨(T_6), (rg_m i_f_5 (by decide))⟩
    · have _ := c_4
      have i_f_8 : Rg (1) (2147483647) (x1) := rg_lt2 (nle_lt c_4) (thI T r_x0 (k := 16) (i := 1) rfl : Rg (0) (1200) ((hI h x0 1))) i_f_3
      exact s_some ⟨(T), (rg_m (rg_b rfl : Rg (-101) (-101) ((- 101 : Int32))) (by decide))⟩
set_option maxRecDepth 20000 in
theorem zX15_isDigit {ρ : Nat → Nat} {c : Cm} {F : Nat} (hF : 700000 ≤ F) {h : Hp} {x0 : Int32} (T : TH ρ c h) (i_x0 : Rg (-128) (127) (x0)) : Sat (sX15_isDigit h x0) (ZP0 h (0) (1) (0) (Rg (48) (57) (x0))) := by
  unfold sX15_isDigit sX15_isDigit_16 sX15_isDigit_17
  refine s_br (fun c_1 => ?_) (fun c_1 => ?_)
  · have _ := c_1
    have i_f_2 : Rg (-128) (47) (x0) := rg_lt1 c_1 i_x0 (rg_b rfl : Rg (48) (48) ((48 : Int32)))
    refine s_gd (rg_bool (rg_m (rg_b rfl : Rg (0) (0) ((0 : Int32))) (by decide))) ?_
    exact s_some ⟨rfl, (rg_m (rg_b rfl : Rg (0) (0) ((0 : Int32))) (by decide)), (fun q => absurd (rz_s (rg_b rfl : Rg (0) (0) ((0 : Int32))) (rg_b rfl : Rg (0) (0) (0 : Int32))) q)⟩
  · have _ := c_1
    have i_f_3 : Rg (48) (127) (x0) := rg_le2 (nlt_le c_1) (rg_b rfl : Rg (48) (48) ((48 : Int32))) i_x0
    refine s_br (fun c_4 => ?_) (fun c_4 => ?_)
    · have _ := c_4
      have i_f_5 : Rg (58) (127) (x0) := rg_lt2 c_4 (rg_b rfl : Rg (57) (57) ((57 : Int32))) i_f_3
      refine s_gd (rg_bool (rg_m (rg_b rfl : Rg (0) (0) ((0 : Int32))) (by decide))) ?_
      exact s_some ⟨rfl, (rg_m (rg_b rfl : Rg (0) (0) ((0 : Int32))) (by decide)), (fun q => absurd (rz_s (rg_b rfl : Rg (0) (0) ((0 : Int32))) (rg_b rfl : Rg (0) (0) (0 : Int32))) q)⟩
    · have _ := c_4
      have i_f_6 : Rg (48) (57) (x0) := rg_le1 (nlt_le c_4) i_f_3 (rg_b rfl : Rg (57) (57) ((57 : Int32)))
      refine s_gd (rg_bool (rg_m (rg_b rfl : Rg (1) (1) ((1 : Int32))) (by decide))) ?_
      exact s_some ⟨rfl, (rg_m (rg_b rfl : Rg (1) (1) ((1 : Int32))) (by decide)), (fun _ => i_f_6)⟩
set_option maxRecDepth 20000 in
theorem zX15_isSmall {ρ : Nat → Nat} {c : Cm} {F : Nat} (hF : 700000 ≤ F) {h : Hp} {x0 : Int32} (T : TH ρ c h) (i_x0 : Rg (-128) (127) (x0)) : Sat (sX15_isSmall h x0) (ZI0 h (0) (1)) := by
  unfold sX15_isSmall sX15_isSmall_16 sX15_isSmall_17
  refine s_br (fun c_1 => ?_) (fun c_1 => ?_)
  · have _ := c_1
    have i_f_2 : Rg (-128) (96) (x0) := rg_lt1 c_1 i_x0 (rg_b rfl : Rg (97) (97) ((97 : Int32)))
    refine s_gd (rg_bool (rg_m (rg_b rfl : Rg (0) (0) ((0 : Int32))) (by decide))) ?_
    exact s_some ⟨rfl, (rg_m (rg_b rfl : Rg (0) (0) ((0 : Int32))) (by decide))⟩
  · have _ := c_1
    have i_f_3 : Rg (97) (127) (x0) := rg_le2 (nlt_le c_1) (rg_b rfl : Rg (97) (97) ((97 : Int32))) i_x0
    refine s_br (fun c_4 => ?_) (fun c_4 => ?_)
    · have _ := c_4
      have i_f_5 : Rg (123) (127) (x0) := rg_lt2 c_4 (rg_b rfl : Rg (122) (122) ((122 : Int32))) i_f_3
      refine s_gd (rg_bool (rg_m (rg_b rfl : Rg (0) (0) ((0 : Int32))) (by decide))) ?_
      exact s_some ⟨rfl, (rg_m (rg_b rfl : Rg (0) (0) ((0 : Int32))) (by decide))⟩
    · have _ := c_4
      have i_f_6 : Rg (97) (122) (x0) := rg_le1 (nlt_le c_4) i_f_3 (rg_b rfl : Rg (122) (122) ((122 : Int32)))
      refine s_gd (rg_bool (rg_m (rg_b rfl : Rg (1) (1) ((1 : Int32))) (by decide))) ?_
      exact s_some ⟨rfl, (rg_m (rg_b rfl : Rg (1) (1) ((1 : Int32))) (by decide))⟩
set_option maxRecDepth 20000 in
theorem zX15_hasCatches_15 {ρ : Nat → Nat} {c : Cm} {h0 : Hp} {F : Nat} (hF : 700000 ≤ F) {k_2 : Hp → Nat → Int32 → Option (Int32 × Hp)} {C_2 : Int} (hk_2 : ∀ {h : Hp} {x0 : Nat} {x1 : Int32}, h = h0 → TH ρ c h → ρ x0 = 16 → Rg (0) (12) (x1) → C_2 < x1.toInt → Sat (k_2 h x0 x1) (ZI0 h0 (0) (1))) : ∀ (f : Nat) {h : Hp} {x0 : Nat} {x1 : Int32} {x2 : Int32}, h = h0 → TH ρ c h → ρ x0 = 16 → Rg (0) (11) (x1) → Rg (0) (8) (x2) → C_2 ≤ x1.toInt → (8 - x2.toInt).toNat < f → Sat (sX15_hasCatches_15 F k_2 f h x0 x1 x2) (ZI0 h0 (0) (1)) := by
  intro f
  induction f with
  | zero => intros; omega
  | succ f ih =>
    intro h x0 x1 x2 E T r_x0 i_x1 i_x2 hc_2 hm
    rw [sX15_hasCatches_15]
    obtain ⟨C_15, hC_15⟩ : ∃ C : Int, C = x2.toInt := ⟨_, rfl⟩
    have hk_15 : ∀ {h : Hp} {x0 : Nat} {x1 : Int32} {x2 : Int32}, h = h0 → TH ρ c h → ρ x0 = 16 → Rg (0) (11) (x1) → Rg (0) (8) (x2) → C_2 ≤ x1.toInt → C_15 < x2.toInt → Sat (sX15_hasCatches_15 F k_2 f h x0 x1 x2) (ZI0 h0 (0) (1)) := by
      intro h' x0' x1' x2' E' T' r_x0' i_x1' i_x2' hc_2' hl
      exact ih E' T' r_x0' i_x1' i_x2' hc_2' (by have := i_x2'.1; have := i_x2'.2; omega)
    have hc_15 : C_15 ≤ x2.toInt := by omega
    obtain ⟨r_1, e_r_1, q_r_1⟩ := thR T r_x0 (k := 16) (i := 4) (k2 := 15) rfl (by decide)
    refine s_ref e_r_1 ?_
    obtain ⟨r_2, e_r_2, q_r_2⟩ := thR T q_r_1 (k := 15) (i := 4) (k2 := 74) rfl (by decide)
    refine s_ref e_r_2 ?_
    refine s_gd (by rw [thN T q_r_2 (k := 74) (n := 12) rfl (by decide)]; exact rg_inB (i_x1 : Rg (0) (11) (x1)) (by decide)) ?_
    refine s_br (fun c_1 => ?_) (fun c_1 => ?_)
    · have _ := c_1
      refine s_q (fun v_5 e_2 => ?_)
      have i_v_5 : Rg (1) (12) (v_5) := by rw [e_2]; exact (rg_add i_x1 (rg_b rfl : Rg (1) (1) ((1 : Int32))) (by decide) : Rg (1) (12) (x1 + (1 : Int32)))
      have m_3 : (v_5).toInt = x1.toInt + 1 := by rw [e_2]; exact rg_inc i_x1 (by decide)
      exact hk_2 E T r_x0 (rg_m i_v_5 (by decide)) (by have := hc_2; omega)
    · have _ := c_1
      have i_f_4 : Rg (0) (7) (x2) := rg_lt1 (nle_lt c_1) i_x2 (thI T q_r_2 (k := 74) rfl : Rg (0) (8) ((hI h r_2 x1.toNatClampNeg)))
      have i_f_5 : Rg (1) (8) ((hI h r_2 x1.toNatClampNeg)) := rg_lt2 (nle_lt c_1) i_x2 (thI T q_r_2 (k := 74) rfl : Rg (0) (8) ((hI h r_2 x1.toNatClampNeg)))
      refine s_ref e_r_1 ?_
      obtain ⟨r_7, e_r_7, q_r_7⟩ := thR T q_r_1 (k := 15) (i := 5) (k2 := 75) rfl (by decide)
      refine s_ref e_r_7 ?_
      refine s_gd (by rw [thN T q_r_7 (k := 75) (n := 96) rfl (by decide)]; exact rg_inB ((rg_add (rg_mulc' (rg_b rfl : Rg (8) (8) ((8 : Int32))) i_x1 (by decide) : Rg (0) (88) (((8 : Int32) * x1))) i_f_4 (by decide) : Rg (0) (95) ((((8 : Int32) * x1) + x2))) : Rg (0) (95) ((((8 : Int32) * x1) + x2))) (by decide)) ?_
      refine s_br (fun c_6 => ?_) (fun c_6 => ?_)
      · have _ := c_6
        have i_f_7 : Rg (0) (0) (((hI h r_7 (((8 : Int32) * x1) + x2).toNatClampNeg) &&& (32 : Int32))) := rg_eq c_6 (rg_b rfl : Rg (0) (0) (0 : Int32))
        refine s_q (fun v_10 e_8 => ?_)
        have i_v_10 : Rg (1) (8) (v_10) := by rw [e_8]; exact (rg_add i_f_4 (rg_b rfl : Rg (1) (1) ((1 : Int32))) (by decide) : Rg (1) (8) (x2 + (1 : Int32)))
        have m_9 : (v_10).toInt = x2.toInt + 1 := by rw [e_8]; exact rg_inc i_f_4 (by decide)
        exact hk_15 E T r_x0 i_x1 (rg_m i_v_10 (by decide)) hc_2 (by have := hc_15; omega)
      · have _ := c_6
        have i_f_10 : Rg (1) (32) (((hI h r_7 (((8 : Int32) * x1) + x2).toNatClampNeg) &&& (32 : Int32))) := rg_nlo c_6 (rg_and (rg_b rfl : Rg (32) (32) ((32 : Int32))) (by decide) : Rg (0) (32) (((hI h r_7 (((8 : Int32) * x1) + x2).toNatClampNeg) &&& (32 : Int32)))) (rg_b rfl : Rg (0) (0) (0 : Int32))
        exact s_some ⟨E, (rg_m (rg_b rfl : Rg (1) (1) ((1 : Int32))) (by decide))⟩
set_option maxRecDepth 20000 in
theorem zX15_hasCatches_2 {ρ : Nat → Nat} {c : Cm} {h0 : Hp} {F : Nat} (hF : 700000 ≤ F) : ∀ (f : Nat) {h : Hp} {x0 : Nat} {x1 : Int32}, h = h0 → TH ρ c h → ρ x0 = 16 → Rg (0) (12) (x1) → (12 - x1.toInt).toNat < f → Sat (sX15_hasCatches_2 F f h x0 x1) (ZI0 h0 (0) (1)) := by
  intro f
  induction f with
  | zero => intros; omega
  | succ f ih =>
    intro h x0 x1 E T r_x0 i_x1 hm
    rw [sX15_hasCatches_2]
    obtain ⟨C_2, hC_2⟩ : ∃ C : Int, C = x1.toInt := ⟨_, rfl⟩
    have hk_2 : ∀ {h : Hp} {x0 : Nat} {x1 : Int32}, h = h0 → TH ρ c h → ρ x0 = 16 → Rg (0) (12) (x1) → C_2 < x1.toInt → Sat (sX15_hasCatches_2 F f h x0 x1) (ZI0 h0 (0) (1)) := by
      intro h' x0' x1' E' T' r_x0' i_x1' hl
      exact ih E' T' r_x0' i_x1' (by have := i_x1'.1; have := i_x1'.2; omega)
    have hc_2 : C_2 ≤ x1.toInt := by omega
    obtain ⟨r_1, e_r_1, q_r_1⟩ := thR T r_x0 (k := 16) (i := 4) (k2 := 15) rfl (by decide)
    refine s_ref e_r_1 ?_
    refine s_br (fun c_1 => ?_) (fun c_1 => ?_)
    · have _ := c_1
      exact s_some ⟨E, (rg_m (rg_b rfl : Rg (0) (0) ((0 : Int32))) (by decide))⟩
    · have _ := c_1
      have i_f_2 : Rg (0) (11) (x1) := rg_lt1 (nle_lt c_1) i_x1 (thI T q_r_1 (k := 15) (i := 2) rfl : Rg (0) (12) ((hI h r_1 2)))
      have i_f_3 : Rg (1) (12) ((hI h r_1 2)) := rg_lt2 (nle_lt c_1) i_x1 (thI T q_r_1 (k := 15) (i := 2) rfl : Rg (0) (12) ((hI h r_1 2)))
      have m_4 : Rg (0) (8) ((0 : Int32)) := (rg_m (rg_b rfl : Rg (0) (0) ((0 : Int32))) (by decide))
      exact zX15_hasCatches_15 hF @hk_2 F E T r_x0 i_f_2 (rg_m (rg_b rfl : Rg (0) (0) ((0 : Int32))) (by decide)) hc_2 (by have := m_4.1; have := m_4.2; omega)
set_option maxRecDepth 20000 in
theorem zX15_hasCatches {ρ : Nat → Nat} {c : Cm} {F : Nat} (hF : 700000 ≤ F) {h : Hp} {x0 : Nat} (T : TH ρ c h) (r_x0 : ρ x0 = 16) : Sat (sX15_hasCatches F h x0) (ZI0 h (0) (1)) := by
  unfold sX15_hasCatches 
  have m_1 : Rg (0) (12) ((0 : Int32)) := (rg_m (rg_b rfl : Rg (0) (0) ((0 : Int32))) (by decide))
  exact zX15_hasCatches_2 hF F rfl T r_x0 (rg_m (rg_b rfl : Rg (0) (0) ((0 : Int32))) (by decide)) (by have := m_1.1; have := m_1.2; omega)
set_option maxRecDepth 20000 in
theorem zX15_isOnce_16 {ρ : Nat → Nat} {c : Cm} {F : Nat} (hF : 700000 ≤ F) (hA : pmA c [(16, 10)]) {h : Hp} {x0 : Nat} {x1 : Int32} {t0 : Int32} (T : TH ρ c h) (r_x0 : ρ x0 = 16) (i_x1 : Rg (0) (9) (x1)) (i_t0 : Rg (0) (1) (t0)) : Sat (sX15_isOnce_16 h x0 x1 t0) (ZI ρ c (0) (1)) := by
  unfold sX15_isOnce_16 
  refine s_hq (th_wI T r_x0 (k := 16) (lo := (0)) (hi := (1023)) rfl ((rg_or (n := 10) (rg_m (thI T r_x0 (k := 16) (i := 10) rfl : Rg (0) (1023) ((hI h x0 10))) (by decide) : Rg (0) (1023) ((hI h x0 10))) (rg_m (rg_shl (n := 9) (rg_m (rg_b rfl : Rg (1) (1) ((1 : Int32))) (by decide) : Rg (0) (1) ((1 : Int32))) (rg_m i_x1 (by decide) : Rg (0) (9) (x1)) (by decide) : Rg (0) (512) (((1 : Int32) <<< (x1 &&& 31)))) (by decide) : Rg (0) (512) (((1 : Int32) <<< (x1 &&& 31)))) (by decide) : Rg (0) (1023) (((hI h x0 10) ||| ((1 : Int32) <<< (x1 &&& 31))))) : Rg (0) (1023) (((hI h x0 10) ||| ((1 : Int32) <<< (x1 &&& 31))))) (by decide) (by decide) (pm_a hA rfl)) (fun h_1 T_1 w_2 => ?_)
  refine s_gd (rg_bool i_t0) ?_
  exact s_some ⟨(T_1), i_t0⟩
set_option maxRecDepth 20000 in
theorem zX15_isOnce {ρ : Nat → Nat} {c : Cm} {F : Nat} (hF : 700000 ≤ F) (hA : pmA c [(16, 10)]) {h : Hp} {x0 : Nat} {x1 : Int32} (T : TH ρ c h) (r_x0 : ρ x0 = 16) (i_x1 : Rg (0) (9) (x1)) : Sat (sX15_isOnce h x0 x1) (ZI ρ c (0) (1)) := by
  unfold sX15_isOnce 
  refine s_br (fun c_1 => ?_) (fun c_1 => ?_)
  · have _ := c_1
    have i_f_2 : Rg (0) (0) ((((hI h x0 10) >>> (x1 &&& 31)) &&& (1 : Int32))) := rg_eq c_1 (rg_b rfl : Rg (0) (0) (0 : Int32))
    exact zX15_isOnce_16 hF (pmA_s hA rfl) T r_x0 i_x1 (rg_m (rg_b rfl : Rg (1) (1) ((1 : Int32))) (by decide))
  · have _ := c_1
    have i_f_3 : Rg (1) (1) ((((hI h x0 10) >>> (x1 &&& 31)) &&& (1 : Int32))) := rg_nlo c_1 (rg_and (rg_b rfl : Rg (1) (1) ((1 : Int32))) (by decide) : Rg (0) (1) ((((hI h x0 10) >>> (x1 &&& 31)) &&& (1 : Int32)))) (rg_b rfl : Rg (0) (0) (0 : Int32))
    exact zX15_isOnce_16 hF (pmA_s hA rfl) T r_x0 i_x1 (rg_m (rg_b rfl : Rg (0) (0) ((0 : Int32))) (by decide))
set_option maxRecDepth 20000 in
theorem zX15_look {ρ : Nat → Nat} {c : Cm} {F : Nat} (hF : 700000 ≤ F) (m7 : c.2.1 7 = true) {h : Hp} {x0 : Nat} (T : TH ρ c h) (r_x0 : ρ x0 = 16) : Sat (sX15_look h x0) (ZP0 h (-128) (127) (-1) (Rg (0) (1199) ((hI h x0 19)))) := by
  unfold sX15_look sX15_look_24
  refine s_br (fun c_1 => ?_) (fun c_1 => ?_)
  · have _ := c_1
    exact s_some ⟨rfl, (rg_m (rg_b rfl : Rg (-1) (-1) ((- 1 : Int32))) (by decide)), (fun q => absurd (rz_s (rg_b rfl : Rg (-1) (-1) ((- 1 : Int32))) (rg_b rfl : Rg (-1) (-1) (-1 : Int32))) q)⟩
  · have _ := c_1
    have i_f_2 : Rg (0) (1199) ((hI h x0 19)) := rg_lt1 (nle_lt c_1) (thI T r_x0 (k := 16) (i := 19) rfl : Rg (0) (1200) ((hI h x0 19))) (thI T r_x0 (k := 16) (i := 18) rfl : Rg (0) (1200) ((hI h x0 18)))
    have i_f_3 : Rg (1) (1200) ((hI h x0 18)) := rg_lt2 (nle_lt c_1) (thI T r_x0 (k := 16) (i := 19) rfl : Rg (0) (1200) ((hI h x0 19))) (thI T r_x0 (k := 16) (i := 18) rfl : Rg (0) (1200) ((hI h x0 18)))
    obtain ⟨r_2, e_r_2, q_r_2⟩ := thM T r_x0 (k := 16) (i := 17) (j := 7) (k2 := 82) rfl (by decide) rfl (by decide) m7
    refine s_ref e_r_2 ?_
    refine s_gd (by rw [thN T q_r_2 (k := 82) (n := 1220) rfl (by decide)]; exact rg_inB ((rg_m i_f_2 (by decide)) : Rg (0) (1219) ((hI h x0 19))) (by decide)) ?_
    exact s_some ⟨rfl, (thI T q_r_2 (k := 82) rfl : Rg (-128) (127) ((hI h r_2 (hI h x0 19).toNatClampNeg))), (fun _ => i_f_2)⟩
set_option maxRecDepth 20000 in
theorem zX15_manLetter_2 {ρ : Nat → Nat} {c : Cm} {h0 : Hp} {F : Nat} (hF : 700000 ≤ F) : ∀ (f : Nat) {h : Hp} {x0 : Nat} {x1 : Int32} {x2 : Int32}, h = h0 → TH ρ c h → ρ x0 = 16 → Rg (-128) (127) (x1) → Rg (0) (12) (x2) → (12 - x2.toInt).toNat < f → Sat (sX15_manLetter_2 F f h x0 x1 x2) (ZI0 h0 (0) (24)) := by
  intro f
  induction f with
  | zero => intros; omega
  | succ f ih =>
    intro h x0 x1 x2 E T r_x0 i_x1 i_x2 hm
    rw [sX15_manLetter_2]
    unfold sX15_valueOf
    obtain ⟨C_2, hC_2⟩ : ∃ C : Int, C = x2.toInt := ⟨_, rfl⟩
    have hk_2 : ∀ {h : Hp} {x0 : Nat} {x1 : Int32} {x2 : Int32}, h = h0 → TH ρ c h → ρ x0 = 16 → Rg (-128) (127) (x1) → Rg (0) (12) (x2) → C_2 < x2.toInt → Sat (sX15_manLetter_2 F f h x0 x1 x2) (ZI0 h0 (0) (24)) := by
      intro h' x0' x1' x2' E' T' r_x0' i_x1' i_x2' hl
      exact ih E' T' r_x0' i_x1' i_x2' (by have := i_x2'.1; have := i_x2'.2; omega)
    have hc_2 : C_2 ≤ x2.toInt := by omega
    obtain ⟨r_1, e_r_1, q_r_1⟩ := thR T r_x0 (k := 16) (i := 4) (k2 := 15) rfl (by decide)
    refine s_ref e_r_1 ?_
    refine s_br (fun c_1 => ?_) (fun c_1 => ?_)
    · have _ := c_1
      exact s_some ⟨E, (rg_m (rg_b rfl : Rg (0) (0) ((0 : Int32))) (by decide))⟩
    · have _ := c_1
      have i_f_2 : Rg (0) (11) (x2) := rg_lt1 (nle_lt c_1) i_x2 (thI T q_r_1 (k := 15) (i := 2) rfl : Rg (0) (12) ((hI h r_1 2)))
      have i_f_3 : Rg (1) (12) ((hI h r_1 2)) := rg_lt2 (nle_lt c_1) i_x2 (thI T q_r_1 (k := 15) (i := 2) rfl : Rg (0) (12) ((hI h r_1 2)))
      refine s_ref e_r_1 ?_
      obtain ⟨r_4, e_r_4, q_r_4⟩ := thR T q_r_1 (k := 15) (i := 3) (k2 := 73) rfl (by decide)
      refine s_ref e_r_4 ?_
      refine s_gd (by rw [thN T q_r_4 (k := 73) (n := 12) rfl (by decide)]; exact rg_inB (i_f_2 : Rg (0) (11) (x2)) (by decide)) ?_
      refine s_br (fun c_4 => ?_) (fun c_4 => ?_)
      · have _ := c_4
        have i_f_5 : Rg (0) (122) (x1) := rg_eq c_4 (thI T q_r_4 (k := 73) rfl : Rg (0) (122) ((hI h r_4 x2.toNatClampNeg)))
        refine s_pu (fun o_13z e_6 => ?_)
        try dsimp only
        have i_o_13z : Rg (2) (24) (o_13z) := by rw [e_6]; exact (rg_add (rg_add (rg_b rfl : Rg (1) (1) ((1 : Int32))) (rg_mulc' (rg_b rfl : Rg (2) (2) ((2 : Int32))) i_f_2 (by decide) : Rg (0) (22) (((2 : Int32) * x2))) (by decide) : Rg (1) (23) (((1 : Int32) + ((2 : Int32) * x2)))) (rg_b rfl : Rg (1) (1) ((1 : Int32))) (by decide) : Rg (2) (24) (((1 : Int32) + ((2 : Int32) * x2)) + (1 : Int32)))
        exact s_some ⟨E, (rg_m i_o_13z (by decide))⟩
      · have _ := c_4
        refine s_ref e_r_1 ?_
        refine s_ref e_r_4 ?_
        refine s_gd (by rw [thN T q_r_4 (k := 73) (n := 12) rfl (by decide)]; exact rg_inB (i_f_2 : Rg (0) (11) (x2)) (by decide)) ?_
        refine s_br (fun c_7 => ?_) (fun c_7 => ?_)
        · have _ := c_7
          have i_f_8 : Rg (-32) (90) (x1) := rg_eq c_7 (rg_sub (thI T q_r_4 (k := 73) rfl : Rg (0) (122) ((hI h r_4 x2.toNatClampNeg))) (rg_b rfl : Rg (32) (32) ((32 : Int32))) (by decide) : Rg (-32) (90) (((hI h r_4 x2.toNatClampNeg) - (32 : Int32))))
          refine s_pu (fun o_12z e_9 => ?_)
          try dsimp only
          have i_o_12z : Rg (1) (23) (o_12z) := by rw [e_9]; exact (rg_add (rg_add (rg_b rfl : Rg (1) (1) ((1 : Int32))) (rg_mulc' (rg_b rfl : Rg (2) (2) ((2 : Int32))) i_f_2 (by decide) : Rg (0) (22) (((2 : Int32) * x2))) (by decide) : Rg (1) (23) (((1 : Int32) + ((2 : Int32) * x2)))) (rg_b rfl : Rg (0) (0) ((0 : Int32))) (by decide) : Rg (1) (23) (((1 : Int32) + ((2 : Int32) * x2)) + (0 : Int32)))
          exact s_some ⟨E, (rg_m i_o_12z (by decide))⟩
        · have _ := c_7
          refine s_q (fun v_11 e_10 => ?_)
          have i_v_11 : Rg (1) (12) (v_11) := by rw [e_10]; exact (rg_add i_f_2 (rg_b rfl : Rg (1) (1) ((1 : Int32))) (by decide) : Rg (1) (12) (x2 + (1 : Int32)))
          have m_11 : (v_11).toInt = x2.toInt + 1 := by rw [e_10]; exact rg_inc i_f_2 (by decide)
          exact hk_2 E T r_x0 i_x1 (rg_m i_v_11 (by decide)) (by have := hc_2; omega)
set_option maxRecDepth 20000 in
theorem zX15_manLetter {ρ : Nat → Nat} {c : Cm} {F : Nat} (hF : 700000 ≤ F) {h : Hp} {x0 : Nat} {x1 : Int32} (T : TH ρ c h) (r_x0 : ρ x0 = 16) (i_x1 : Rg (-128) (127) (x1)) : Sat (sX15_manLetter F h x0 x1) (ZI0 h (0) (24)) := by
  unfold sX15_manLetter 
  have m_1 : Rg (0) (12) ((0 : Int32)) := (rg_m (rg_b rfl : Rg (0) (0) ((0 : Int32))) (by decide))
  exact zX15_manLetter_2 hF F rfl T r_x0 i_x1 (rg_m (rg_b rfl : Rg (0) (0) ((0 : Int32))) (by decide)) (by have := m_1.1; have := m_1.2; omega)
set_option maxRecDepth 20000 in
theorem zX15_reads {ρ : Nat → Nat} {c : Cm} {F : Nat} (hF : 700000 ≤ F) (m7 : c.2.1 7 = true) (hA : pmA c [(16, 19)]) {h : Hp} {x0 : Nat} {x1 : Int32} (T : TH ρ c h) (r_x0 : ρ x0 = 16) (i_x1 : Rg (32) (47) (x1)) : Sat (sX15_reads h x0 x1) (ZI ρ c (0) (1)) := by
  unfold sX15_reads 
  refine s_cP0 (zX15_look hF m7 T r_x0) (fun o_1 e_o_1 i_o_1 p_o_1 => ?_)
  have T_1 := th_eq e_o_1 T
  refine s_br (fun c_2 => ?_) (fun c_2 => ?_)
  · have _ := c_2
    have i_f_3 : Rg (32) (47) (o_1.1) := rg_eq c_2 i_x1
    have p_f_4 := p_o_1 (fun q => rc_eq q i_f_3 (rg_b rfl : Rg (-1) (-1) (-1 : Int32)) (by decide))
    refine s_hq (th_wI T_1 r_x0 (k := 16) (lo := (0)) (hi := (1200)) rfl ((rg_m (rg_add ((rg_he e_o_1 p_f_4) : Rg (0) (1199) ((hI o_1.2 x0 19))) (rg_b rfl : Rg (1) (1) ((1 : Int32))) (by decide) : Rg (1) (1200) (((hI o_1.2 x0 19) + (1 : Int32)))) (by decide)) : Rg (0) (1200) (((hI o_1.2 x0 19) + (1 : Int32)))) (by decide) (by decide) (pm_a hA rfl)) (fun h_3 T_5 w_6 => ?_)
    exact s_some ⟨(T_5), (rg_m (rg_b rfl : Rg (1) (1) ((1 : Int32))) (by decide))⟩
  · have _ := c_2
    exact s_some ⟨(T_1), (rg_m (rg_b rfl : Rg (0) (0) ((0 : Int32))) (by decide))⟩
set_option maxRecDepth 20000 in
theorem zX15_isProblem {ρ : Nat → Nat} {c : Cm} {F : Nat} (hF : 700000 ≤ F) {h : Hp} {x0 : Nat} (T : TH ρ c h) (r_x0 : ρ x0 = 16) : Sat (sX15_isProblem h x0) (ZI0 h (0) (1)) := by
  unfold sX15_isProblem sX15_isProblem_27 sX15_isProblem_28
  refine s_br (fun c_1 => ?_) (fun c_1 => ?_)
  · have _ := c_1
    have i_f_2 : Rg (-2147483648) (0) ((hI h x0 65)) := rg_le1 c_1 (thI T r_x0 (k := 16) (i := 65) rfl : Rg (-2147483648) (2147483647) ((hI h x0 65))) (rg_b rfl : Rg (0) (0) (0 : Int32))
    refine s_gd (rg_bool (rg_m (rg_b rfl : Rg (0) (0) ((0 : Int32))) (by decide))) ?_
    exact s_some ⟨rfl, (rg_m (rg_b rfl : Rg (0) (0) ((0 : Int32))) (by decide))⟩
  · have _ := c_1
    have i_f_3 : Rg (1) (2147483647) ((hI h x0 65)) := rg_lt2 (nle_lt c_1) (rg_b rfl : Rg (0) (0) (0 : Int32)) (thI T r_x0 (k := 16) (i := 65) rfl : Rg (-2147483648) (2147483647) ((hI h x0 65)))
    obtain ⟨r_2, e_r_2, q_r_2⟩ := thR T r_x0 (k := 16) (i := 15) (k2 := 85) rfl (by decide)
    refine s_ref e_r_2 ?_
    refine s_gd (by rw [thN T q_r_2 (k := 85) (n := 60) rfl (by decide)]; exact rg_inB ((thI T r_x0 (k := 16) (i := 64) rfl : Rg (0) (59) ((hI h x0 64))) : Rg (0) (59) ((hI h x0 64))) (by decide)) ?_
    refine s_br (fun c_4 => ?_) (fun c_4 => ?_)
    · have _ := c_4
      have i_f_5 : Rg (1) (2147483647) ((hI h r_2 (hI h x0 64).toNatClampNeg)) := rg_eq c_4 i_f_3
      refine s_gd (rg_bool (rg_m (rg_b rfl : Rg (1) (1) ((1 : Int32))) (by decide))) ?_
      exact s_some ⟨rfl, (rg_m (rg_b rfl : Rg (1) (1) ((1 : Int32))) (by decide))⟩
    · have _ := c_4
      refine s_gd (rg_bool (rg_m (rg_b rfl : Rg (0) (0) ((0 : Int32))) (by decide))) ?_
      exact s_some ⟨rfl, (rg_m (rg_b rfl : Rg (0) (0) ((0 : Int32))) (by decide))⟩
set_option maxRecDepth 20000 in
theorem zX15_key {ρ : Nat → Nat} {c : Cm} {F : Nat} (hF : 700000 ≤ F) {h : Hp} {x0 : Nat} {x1 : Int32} (T : TH ρ c h) (r_x0 : ρ x0 = 16) (i_x1 : Rg (-2147483648) (2147483647) (x1)) : Sat (sX15_key h x0 x1) (ZI0 h (-1) (2999)) := by
  unfold sX15_key sX15_key_19 sX15_key_29
  refine s_cI0 (zX15_isProblem hF T r_x0) (fun o_1 e_o_1 i_o_1 => ?_)
  have T_1 := th_eq e_o_1 T
  refine s_br (fun c_2 => ?_) (fun c_2 => ?_)
  · have _ := c_2
    have i_f_3 : Rg (0) (0) (o_1.1) := rg_eq c_2 (rg_b rfl : Rg (0) (0) (0 : Int32))
    exact s_some ⟨(e_o_1.trans rfl), (rg_m (rg_b rfl : Rg (-1) (-1) ((- 1 : Int32))) (by decide))⟩
  · have _ := c_2
    have i_f_4 : Rg (1) (1) (o_1.1) := rg_nlo c_2 i_o_1 (rg_b rfl : Rg (0) (0) (0 : Int32))
    refine s_br (fun c_5 => ?_) (fun c_5 => ?_)
    · have _ := c_5
      have i_f_6 : Rg (-2147483648) (-1) (x1) := rg_lt1 c_5 i_x1 (rg_b rfl : Rg (0) (0) (0 : Int32))
      exact s_some ⟨(e_o_1.trans rfl), (rg_m (rg_b rfl : Rg (-1) (-1) ((- 1 : Int32))) (by decide))⟩
    · have _ := c_5
      have i_f_7 : Rg (0) (2147483647) (x1) := rg_le2 (nlt_le c_5) (rg_b rfl : Rg (0) (0) (0 : Int32)) i_x1
      refine s_br (fun c_8 => ?_) (fun c_8 => ?_)
      · have _ := c_8
        have i_f_9 : Rg (0) (2999) (x1) := rg_lt1 c_8 i_f_7 (thI T_1 r_x0 (k := 16) (i := 70) rfl : Rg (0) (3000) ((hI o_1.2 x0 70)))
        have i_f_10 : Rg (1) (3000) ((hI o_1.2 x0 70)) := rg_lt2 c_8 i_f_7 (thI T_1 r_x0 (k := 16) (i := 70) rfl : Rg (0) (3000) ((hI o_1.2 x0 70)))
        obtain ⟨r_5, e_r_5, q_r_5⟩ := thR T_1 r_x0 (k := 16) (i := 69) (k2 := 111) rfl (by decide)
        refine s_ref e_r_5 ?_
        refine s_gd (by rw [thN T_1 q_r_5 (k := 111) (n := 3000) rfl (by decide)]; exact rg_inB (i_f_9 : Rg (0) (2999) (x1)) (by decide)) ?_
        exact s_some ⟨(e_o_1.trans rfl), (rg_m (thI T_1 q_r_5 (k := 111) rfl : Rg (0) (2999) ((hI o_1.2 r_5 x1.toNatClampNeg))) (by decide))⟩
      · have _ := c_8
        exact s_some ⟨(e_o_1.trans rfl), (rg_m (rg_b rfl : Rg (-1) (-1) ((- 1 : Int32))) (by decide))⟩
set_option maxRecDepth 20000 in
theorem zX15_meet_21 {ρ : Nat → Nat} {c : Cm} {F : Nat} (hF : 700000 ≤ F) (hA : pmA c [(16, 62), (16, 63)]) {h : Hp} {x0 : Nat} {x1 : Int32} {x2 : Int32} {t0 : Int32} {t1 : Int32} {t2 : Nat} (T : TH ρ c h) (r_x0 : ρ x0 = 16) (i_x1 : Rg (-1000000) (3000000) (x1)) (i_x2 : Rg (-2147483648) (2147483647) (x2)) (i_t0 : Rg (0) (1) (t0)) (i_t1 : Rg (0) (1) (t1)) (r_t2 : ρ t2 = 16) : Sat (sX15_meet_21 h x0 x1 x2 t0 t1 t2) (ZV ρ c) := by
  unfold sX15_meet_21 sX15_meet_50 sX15_meet_51
  refine s_gd (rg_bool (rg_or (n := 1) (rg_m i_t1 (by decide) : Rg (0) (1) (t1)) (rg_m i_t0 (by decide) : Rg (0) (1) (t0)) (by decide) : Rg (0) (1) ((t1 ||| t0)))) ?_
  refine s_hq (th_wI T r_t2 (k := 16) (lo := (0)) (hi := (1)) rfl ((rg_or (n := 1) (rg_m i_t1 (by decide) : Rg (0) (1) (t1)) (rg_m i_t0 (by decide) : Rg (0) (1) (t0)) (by decide) : Rg (0) (1) ((t1 ||| t0))) : Rg (0) (1) ((t1 ||| t0))) (by decide) (by decide) (pm_a hA rfl)) (fun h_2 T_1 w_2 => ?_)
  refine s_br (fun c_3 => ?_) (fun c_3 => ?_)
  · have _ := c_3
    refine s_gd (rg_bool (rg_m (rg_and (rg_b rfl : Rg (0) (0) ((0 : Int32))) (by decide) : Rg (0) (0) (((hI h_2 x0 63) &&& (0 : Int32)))) (by decide))) ?_
    refine s_hq (th_wI T_1 r_x0 (k := 16) (lo := (0)) (hi := (1)) rfl ((rg_m (rg_and (rg_b rfl : Rg (0) (0) ((0 : Int32))) (by decide) : Rg (0) (0) (((hI h_2 x0 63) &&& (0 : Int32)))) (by decide)) : Rg (0) (1) (((hI h_2 x0 63) &&& (0 : Int32)))) (by decide) (by decide) (pm_a hA rfl)) (fun h_2q2 T_4 w_5 => ?_)
    exact s_some (T_4)
  · have _ := c_3
    refine s_br (fun c_6 => ?_) (fun c_6 => ?_)
    · have _ := c_6
      have i_f_7 : Rg (1000001) (3000000) (x1) := rg_lt2 c_6 (rg_b rfl : Rg (1000000) (1000000) ((1000000 : Int32))) i_x1
      refine s_gd (rg_bool (rg_m (rg_and (rg_b rfl : Rg (0) (0) ((0 : Int32))) (by decide) : Rg (0) (0) (((hI h_2 x0 63) &&& (0 : Int32)))) (by decide))) ?_
      refine s_hq (th_wI T_1 r_x0 (k := 16) (lo := (0)) (hi := (1)) rfl ((rg_m (rg_and (rg_b rfl : Rg (0) (0) ((0 : Int32))) (by decide) : Rg (0) (0) (((hI h_2 x0 63) &&& (0 : Int32)))) (by decide)) : Rg (0) (1) (((hI h_2 x0 63) &&& (0 : Int32)))) (by decide) (by decide) (pm_a hA rfl)) (fun h_2q4 T_8 w_9 => ?_)
      exact s_some (T_8)
    · have _ := c_6
      have i_f_10 : Rg (-1000000) (1000000) (x1) := rg_le1 (nlt_le c_6) i_x1 (rg_b rfl : Rg (1000000) (1000000) ((1000000 : Int32)))
      refine s_gd (rg_bool (rg_and (rg_b rfl : Rg (1) (1) ((1 : Int32))) (by decide) : Rg (0) (1) (((hI h_2 x0 63) &&& (1 : Int32))))) ?_
      refine s_hq (th_wI T_1 r_x0 (k := 16) (lo := (0)) (hi := (1)) rfl ((rg_and (rg_b rfl : Rg (1) (1) ((1 : Int32))) (by decide) : Rg (0) (1) (((hI h_2 x0 63) &&& (1 : Int32)))) : Rg (0) (1) (((hI h_2 x0 63) &&& (1 : Int32)))) (by decide) (by decide) (pm_a hA rfl)) (fun h_2q5 T_11 w_12 => ?_)
      exact s_some (T_11)
set_option maxRecDepth 20000 in
theorem zX15_meet {ρ : Nat → Nat} {c : Cm} {F : Nat} (hF : 700000 ≤ F) (hA : pmA c [(16, 62), (16, 63)]) {h : Hp} {x0 : Nat} {x1 : Int32} {x2 : Int32} (T : TH ρ c h) (r_x0 : ρ x0 = 16) (i_x1 : Rg (-1000000) (3000000) (x1)) (i_x2 : Rg (-2147483648) (2147483647) (x2)) : Sat (sX15_meet h x0 x1 x2) (ZV ρ c) := by
  unfold sX15_meet 
  refine s_br (fun c_1 => ?_) (fun c_1 => ?_)
  · have _ := c_1
    exact zX15_meet_21 hF (pmA_s hA rfl) T r_x0 i_x1 i_x2 (rg_m (rg_b rfl : Rg (1) (1) ((1 : Int32))) (by decide)) (thI T r_x0 (k := 16) (i := 62) rfl : Rg (0) (1) ((hI h x0 62))) r_x0
  · have _ := c_1
    exact zX15_meet_21 hF (pmA_s hA rfl) T r_x0 i_x1 i_x2 (rg_m (rg_b rfl : Rg (0) (0) ((0 : Int32))) (by decide)) (thI T r_x0 (k := 16) (i := 62) rfl : Rg (0) (1) ((hI h x0 62))) r_x0
set_option maxRecDepth 20000 in
theorem zX15_out {ρ : Nat → Nat} {c : Cm} {F : Nat} (hF : 700000 ≤ F) {h : Hp} {x0 : Nat} {x1 : Int32} (T : TH ρ c h) (r_x0 : ρ x0 = 16) (i_x1 : Rg (-2147483648) (2147483647) (x1)) : Sat (sX15_out h x0 x1) (ZI0 h (-128) (127)) := by
  unfold sX15_out sX15_out_12 sX15_out_22
  refine s_br (fun c_1 => ?_) (fun c_1 => ?_)
  · have _ := c_1
    have i_f_2 : Rg (-2147483648) (-1) (x1) := rg_lt1 c_1 i_x1 (rg_b rfl : Rg (0) (0) (0 : Int32))
    exact s_some ⟨rfl, (rg_m (rg_b rfl : Rg (-1) (-1) ((- 1 : Int32))) (by decide))⟩
  · have _ := c_1
    have i_f_3 : Rg (0) (2147483647) (x1) := rg_le2 (nlt_le c_1) (rg_b rfl : Rg (0) (0) (0 : Int32)) i_x1
    refine s_br (fun c_4 => ?_) (fun c_4 => ?_)
    · have _ := c_4
      have i_f_5 : Rg (0) (255) (x1) := rg_lt1 c_4 i_f_3 (thI T r_x0 (k := 16) (i := 3) rfl : Rg (0) (256) ((hI h x0 3)))
      have i_f_6 : Rg (1) (256) ((hI h x0 3)) := rg_lt2 c_4 i_f_3 (thI T r_x0 (k := 16) (i := 3) rfl : Rg (0) (256) ((hI h x0 3)))
      obtain ⟨r_3, e_r_3, q_r_3⟩ := thR T r_x0 (k := 16) (i := 2) (k2 := 83) rfl (by decide)
      refine s_ref e_r_3 ?_
      refine s_gd (by rw [thN T q_r_3 (k := 83) (n := 256) rfl (by decide)]; exact rg_inB (i_f_5 : Rg (0) (255) (x1)) (by decide)) ?_
      exact s_some ⟨rfl, (thI T q_r_3 (k := 83) rfl : Rg (-128) (127) ((hI h r_3 x1.toNatClampNeg)))⟩
    · have _ := c_4
      exact s_some ⟨rfl, (rg_m (rg_b rfl : Rg (-1) (-1) ((- 1 : Int32))) (by decide))⟩
set_option maxRecDepth 20000 in
theorem zX15_played {ρ : Nat → Nat} {c : Cm} {F : Nat} (hF : 700000 ≤ F) {h : Hp} {x0 : Nat} {x1 : Int32} {x2 : Int32} (T : TH ρ c h) (r_x0 : ρ x0 = 16) (i_x1 : Rg (-2147483648) (2147483647) (x1)) (i_x2 : Rg (-2147483648) (2147483647) (x2)) : Sat (sX15_played h x0 x1 x2) (ZI0 h (-102) (2999)) := by
  unfold sX15_played sX15_played_34 sX15_played_51
  refine s_cP0 (zX15_isGame hF T i_x1) (fun o_1 e_o_1 i_o_1 p_o_1 => ?_)
  have T_1 := th_eq e_o_1 T
  refine s_br (fun c_2 => ?_) (fun c_2 => ?_)
  · have _ := c_2
    have i_f_3 : Rg (0) (0) (o_1.1) := rg_eq c_2 (rg_b rfl : Rg (0) (0) (0 : Int32))
    exact s_some ⟨(e_o_1.trans rfl), (rg_m (rg_b rfl : Rg (-101) (-101) ((- 101 : Int32))) (by decide))⟩
  · have _ := c_2
    have i_f_4 : Rg (1) (1) (o_1.1) := rg_nlo c_2 i_o_1 (rg_b rfl : Rg (0) (0) (0 : Int32))
    have p_f_5 := p_o_1 c_2
    obtain ⟨r_3, e_r_3, q_r_3⟩ := thR T_1 r_x0 (k := 16) (i := 39) (k2 := 94) rfl (by decide)
    refine s_ref e_r_3 ?_
    refine s_gd (by rw [thN T_1 q_r_3 (k := 94) (n := 8) rfl (by decide)]; exact rg_inB (p_f_5 : Rg (0) (7) (x1)) (by decide)) ?_
    refine s_br (fun c_6 => ?_) (fun c_6 => ?_)
    · have _ := c_6
      have i_f_7 : Rg (-1) (-1) ((hI o_1.2 r_3 x1.toNatClampNeg)) := rg_eq c_6 (rg_b rfl : Rg (-1) (-1) ((- 1 : Int32)))
      exact s_some ⟨(e_o_1.trans rfl), (rg_m (rg_b rfl : Rg (-102) (-102) ((- 102 : Int32))) (by decide))⟩
    · have _ := c_6
      have i_f_8 : Rg (0) (300) ((hI o_1.2 r_3 x1.toNatClampNeg)) := rg_nlo c_6 (thI T_1 q_r_3 (k := 94) rfl : Rg (-1) (300) ((hI o_1.2 r_3 x1.toNatClampNeg))) (rg_b rfl : Rg (-1) (-1) ((- 1 : Int32)))
      refine s_br (fun c_9 => ?_) (fun c_9 => ?_)
      · have _ := c_9
        have i_f_10 : Rg (-2147483648) (-1) (x2) := rg_lt1 c_9 i_x2 (rg_b rfl : Rg (0) (0) (0 : Int32))
        exact s_some ⟨(e_o_1.trans rfl), (rg_m (rg_b rfl : Rg (-102) (-102) ((- 102 : Int32))) (by decide))⟩
      · have _ := c_9
        have i_f_11 : Rg (0) (2147483647) (x2) := rg_le2 (nlt_le c_9) (rg_b rfl : Rg (0) (0) (0 : Int32)) i_x2
        refine s_ref e_r_3 ?_
        refine s_gd (by rw [thN T_1 q_r_3 (k := 94) (n := 8) rfl (by decide)]; exact rg_inB (p_f_5 : Rg (0) (7) (x1)) (by decide)) ?_
        refine s_br (fun c_12 => ?_) (fun c_12 => ?_)
        · have _ := c_12
          have i_f_13 : Rg (0) (299) (x2) := rg_lt1 c_12 i_f_11 i_f_8
          have i_f_14 : Rg (1) (300) ((hI o_1.2 r_3 x1.toNatClampNeg)) := rg_lt2 c_12 i_f_11 i_f_8
          obtain ⟨r_10, e_r_10, q_r_10⟩ := thR T_1 r_x0 (k := 16) (i := 38) (k2 := 93) rfl (by decide)
          refine s_ref e_r_10 ?_
          refine s_gd (by rw [thN T_1 q_r_10 (k := 93) (n := 2408) rfl (by decide)]; exact rg_inB ((rg_m (rg_add (rg_mulc p_f_5 (rg_b rfl : Rg (301) (301) ((301 : Int32))) (by decide) : Rg (0) (2107) ((x1 * (301 : Int32)))) i_f_13 (by decide) : Rg (0) (2406) (((x1 * (301 : Int32)) + x2))) (by decide)) : Rg (0) (2407) (((x1 * (301 : Int32)) + x2))) (by decide)) ?_
          exact s_some ⟨(e_o_1.trans rfl), (rg_m (thI T_1 q_r_10 (k := 93) rfl : Rg (0) (2999) ((hI o_1.2 r_10 ((x1 * (301 : Int32)) + x2).toNatClampNeg))) (by decide))⟩
        · have _ := c_12
          exact s_some ⟨(e_o_1.trans rfl), (rg_m (rg_b rfl : Rg (-102) (-102) ((- 102 : Int32))) (by decide))⟩
set_option maxRecDepth 20000 in
theorem zX15_sizeOf_4 {ρ : Nat → Nat} {c : Cm} {h0 : Hp} {F : Nat} (hF : 700000 ≤ F) : ∀ (f : Nat) {h : Hp} {x0 : Nat} {x1 : Int32} {x2 : Int32} {x3 : Int32}, h = h0 → TH ρ c h → ρ x0 = 16 → Rg (0) (4095) (x1) → Rg (-2147483648) (2147483647) (x2) → Rg (0) (5) (x3) → (5 - x3.toInt).toNat < f → Sat (sX15_sizeOf_4 F f h x0 x1 x2 x3) (ZI0 h0 (-2147483648) (2147483647)) := by
  intro f
  induction f with
  | zero => intros; omega
  | succ f ih =>
    intro h x0 x1 x2 x3 E T r_x0 i_x1 i_x2 i_x3 hm
    rw [sX15_sizeOf_4]
    obtain ⟨C_4, hC_4⟩ : ∃ C : Int, C = x3.toInt := ⟨_, rfl⟩
    have hk_4 : ∀ {h : Hp} {x0 : Nat} {x1 : Int32} {x2 : Int32} {x3 : Int32}, h = h0 → TH ρ c h → ρ x0 = 16 → Rg (0) (4095) (x1) → Rg (-2147483648) (2147483647) (x2) → Rg (0) (5) (x3) → C_4 < x3.toInt → Sat (sX15_sizeOf_4 F f h x0 x1 x2 x3) (ZI0 h0 (-2147483648) (2147483647)) := by
      intro h' x0' x1' x2' x3' E' T' r_x0' i_x1' i_x2' i_x3' hl
      exact ih E' T' r_x0' i_x1' i_x2' i_x3' (by have := i_x3'.1; have := i_x3'.2; omega)
    have hc_4 : C_4 ≤ x3.toInt := by omega
    obtain ⟨r_1, e_r_1, q_r_1⟩ := thR T r_x0 (k := 16) (i := 46) (k2 := 99) rfl (by decide)
    refine s_ref e_r_1 ?_
    refine s_gd (by rw [thN T q_r_1 (k := 99) (n := 4096) rfl (by decide)]; exact rg_inB (i_x1 : Rg (0) (4095) (x1)) (by decide)) ?_
    refine s_br (fun c_1 => ?_) (fun c_1 => ?_)
    · have _ := c_1
      exact s_some ⟨E, i_x2⟩
    · have _ := c_1
      have i_f_2 : Rg (0) (4) (x3) := rg_lt1 (nle_lt c_1) i_x3 (thI T q_r_1 (k := 99) rfl : Rg (0) (5) ((hI h r_1 x1.toNatClampNeg)))
      have i_f_3 : Rg (1) (5) ((hI h r_1 x1.toNatClampNeg)) := rg_lt2 (nle_lt c_1) i_x3 (thI T q_r_1 (k := 99) rfl : Rg (0) (5) ((hI h r_1 x1.toNatClampNeg)))
      refine s_q (fun v_4 e_4 => ?_)
      have i_v_4 : Rg (-2147483648) (2147483647) (v_4) := by rw [e_4]; exact (rg_top _ : Rg (-2147483648) (2147483647) (x2 * (hI h x0 13)))
      refine s_q (fun v_5 e_5 => ?_)
      have i_v_5 : Rg (1) (5) (v_5) := by rw [e_5]; exact (rg_add i_f_2 (rg_b rfl : Rg (1) (1) ((1 : Int32))) (by decide) : Rg (1) (5) (x3 + (1 : Int32)))
      have m_6 : (v_5).toInt = x3.toInt + 1 := by rw [e_5]; exact rg_inc i_f_2 (by decide)
      exact hk_4 E T r_x0 i_x1 i_v_4 (rg_m i_v_5 (by decide)) (by have := hc_4; omega)
set_option maxRecDepth 20000 in
theorem zX15_sizeOf {ρ : Nat → Nat} {c : Cm} {F : Nat} (hF : 700000 ≤ F) {h : Hp} {x0 : Nat} {x1 : Int32} (T : TH ρ c h) (r_x0 : ρ x0 = 16) (i_x1 : Rg (0) (4095) (x1)) : Sat (sX15_sizeOf F h x0 x1) (ZI0 h (-2147483648) (2147483647)) := by
  unfold sX15_sizeOf 
  have m_1 : Rg (0) (5) ((0 : Int32)) := (rg_m (rg_b rfl : Rg (0) (0) ((0 : Int32))) (by decide))
  exact zX15_sizeOf_4 hF F rfl T r_x0 i_x1 (rg_m (rg_b rfl : Rg (2) (2) ((2 : Int32))) (by decide)) (rg_m (rg_b rfl : Rg (0) (0) ((0 : Int32))) (by decide)) (by have := m_1.1; have := m_1.2; omega)
