set_option maxRecDepth 20000 in
theorem zX7_writeRanks_11 {ρ : Nat → Nat} {c : Cm} {F : Nat} {w_x1 w_x4 : Nat} (hF : 700000 ≤ F) (hO_x4 : pmO c w_x4 [(49, 999), (10, 1)]) : ∀ (f : Nat) {h : Hp} {x0 : Nat} {x1 : Nat} {x2 : Int64} {x4 : Nat} {x5 : Int32}, cw c x1 = w_x1 → cw c x4 = w_x4 → TH ρ c h → ρ x0 = 8 → ρ x1 = 4 → ρ x4 = 10 → Rg (-1) (7) (x5) → (x5.toInt - (-1)).toNat < f → Sat (sX7_writeRanks_11 F f h x0 x1 x2 x4 x5) (ZV ρ c) := by
  intro f
  induction f with
  | zero => intros; omega
  | succ f ih =>
    intro h x0 x1 x2 x4 x5 o_x1 o_x4 T r_x0 r_x1 r_x4 i_x5 hm
    rw [sX7_writeRanks_11]
    obtain ⟨C_11, hC_11⟩ : ∃ C : Int, C = x5.toInt := ⟨_, rfl⟩
    have hk_11 : ∀ {h : Hp} {x0 : Nat} {x1 : Nat} {x2 : Int64} {x4 : Nat} {x5 : Int32}, cw c x1 = w_x1 → cw c x4 = w_x4 → TH ρ c h → ρ x0 = 8 → ρ x1 = 4 → ρ x4 = 10 → Rg (-1) (7) (x5) → x5.toInt < C_11 → Sat (sX7_writeRanks_11 F f h x0 x1 x2 x4 x5) (ZV ρ c) := by
      intro h' x0' x1' x2' x4' x5' o_x1' o_x4' T' r_x0' r_x1' r_x4' i_x5' hl
      exact ih o_x1' o_x4' T' r_x0' r_x1' r_x4' i_x5' (by have := i_x5'.1; have := i_x5'.2; omega)
    have hc_11 : x5.toInt ≤ C_11 := by omega
    refine s_br (fun c_1 => ?_) (fun c_1 => ?_)
    · have _ := c_1
      have i_f_2 : Rg (-1) (-1) (x5) := rg_lt1 c_1 i_x5 (rg_b rfl : Rg (0) (0) (0 : Int32))
      exact s_some (T)
    · have _ := c_1
      have i_f_3 : Rg (0) (7) (x5) := rg_le2 (nlt_le c_1) (rg_b rfl : Rg (0) (0) (0 : Int32)) i_x5
      have m_4 : Rg (0) (8) ((0 : Int32)) := (rg_m (rg_b rfl : Rg (0) (0) ((0 : Int32))) (by decide))
      exact zX7_writeRanks_22 hF @hk_11 (pmO_s hO_x4 rfl) F o_x1 o_x4 T r_x0 r_x1 r_x4 i_f_3 (rg_m (rg_b rfl : Rg (0) (0) ((0 : Int32))) (by decide)) (rg_m (rg_b rfl : Rg (0) (0) ((0 : Int32))) (by decide)) hc_11 (by have := m_4.1; have := m_4.2; omega)
set_option maxRecDepth 20000 in
theorem zX7_writeRanks {ρ : Nat → Nat} {c : Cm} {F : Nat} {w_x1 w_x4 : Nat} (hF : 700000 ≤ F) (hO_x4 : pmO c w_x4 [(49, 999), (10, 1)]) {h : Hp} {x0 : Nat} {x1 : Nat} {x2 : Int64} {x4 : Nat} (o_x1 : cw c x1 = w_x1) (o_x4 : cw c x4 = w_x4) (T : TH ρ c h) (r_x0 : ρ x0 = 8) (r_x1 : ρ x1 = 4) (r_x4 : ρ x4 = 10) : Sat (sX7_writeRanks F h x0 x1 x2 x4) (ZV ρ c) := by
  unfold sX7_writeRanks 
  obtain ⟨r_1, e_r_1, q_r_1⟩ := thR T r_x0 (k := 8) (i := 0) (k2 := 2) rfl (by decide)
  refine s_ref e_r_1 ?_
  refine s_q (fun v_2 e_1 => ?_)
  have i_v_2 : Rg (-1) (7) (v_2) := by rw [e_1]; exact (rg_sub (thI T q_r_1 (k := 2) (i := 1) rfl : Rg (0) (8) ((hI h r_1 1))) (rg_b rfl : Rg (1) (1) ((1 : Int32))) (by decide) : Rg (-1) (7) ((hI h r_1 1) - (1 : Int32)))
  have m_2 : Rg (-1) (7) (v_2) := i_v_2
  exact zX7_writeRanks_11 hF (pmO_s hO_x4 rfl) F o_x1 o_x4 T r_x0 r_x1 r_x4 i_v_2 (by have := m_2.1; have := m_2.2; omega)
set_option maxRecDepth 20000 in
theorem zX11_view {ρ : Nat → Nat} {c : Cm} {F : Nat} (hF : 700000 ≤ F) (hi_2101 : pmO c 2101 [(49, 999), (10, 1)]) {h : Hp} {x0 : Nat} {x1 : Int32} {x2 : Int32} (T : TH ρ c h) (r_x0 : ρ x0 = 12) (i_x1 : Rg (-2147483648) (2147483647) (x1)) (i_x2 : Rg (-2147483648) (2147483647) (x2)) : Sat (sX11_view F h x0 x1 x2) (ZI ρ c (-102) (1200)) := by
  unfold sX11_view 
  refine s_dP0 (zX11_isSide hF T i_x2) (fun o_1 eb_o_1 e_o_1 i_o_1 p_o_1 => ?_)
  have T_1 := th_eq e_o_1 T
  refine s_br (fun c_2 => ?_) (fun c_2 => ?_)
  · have _ := c_2
    have i_f_3 : Rg (0) (0) (o_1.1) := rg_eq c_2 (rg_b rfl : Rg (0) (0) (0 : Int32))
    exact s_some ⟨(T_1), (rg_m (rg_b rfl : Rg (-101) (-101) ((- 101 : Int32))) (by decide))⟩
  · have _ := c_2
    have i_f_4 : Rg (1) (1) (o_1.1) := rg_nlo c_2 i_o_1 (rg_b rfl : Rg (0) (0) (0 : Int32))
    have p_f_5 := p_o_1 c_2
    refine s_dP0 (zX11_isPlace hF T_1 r_x0 i_x1) (fun o_3 eb_o_3 e_o_3 i_o_3 p_o_3 => ?_)
    have T_6 := th_eq e_o_3 T_1
    refine s_br (fun c_7 => ?_) (fun c_7 => ?_)
    · have _ := c_7
      have i_f_8 : Rg (0) (0) (o_3.1) := rg_eq c_7 (rg_b rfl : Rg (0) (0) (0 : Int32))
      exact s_some ⟨(T_6), (rg_m (rg_b rfl : Rg (-102) (-102) ((- 102 : Int32))) (by decide))⟩
    · have _ := c_7
      have i_f_9 : Rg (1) (1) (o_3.1) := rg_nlo c_7 i_o_3 (rg_b rfl : Rg (0) (0) (0 : Int32))
      have p_f_10 := p_o_3 c_7
      obtain ⟨r_5, e_r_5, q_r_5⟩ := thR T_6 r_x0 (k := 12) (i := 1) (k2 := 10) rfl (by decide)
      refine s_ref e_r_5 ?_
      refine s_cV (zX9_clear hF (pmO_e (th_id T_6 r_x0 (k := 12) (i := 1) (w := 2101) e_r_5 rfl (by decide)) hi_2101 rfl) T_6 q_r_5) (fun o_6 T_11 => ?_)
      obtain ⟨r_7, e_r_7, q_r_7⟩ := thR T_11 r_x0 (k := 12) (i := 7) (k2 := 8) rfl (by decide)
      refine s_ref e_r_7 ?_
      obtain ⟨r_8, e_r_8, q_r_8⟩ := thR T_11 r_x0 (k := 12) (i := 13) (k2 := 57) rfl (by decide)
      refine s_ref e_r_8 ?_
      refine s_gd (by rw [thN T_11 q_r_8 (k := 57) (n := 60) rfl (by decide)]; exact rg_inB (p_f_10 : Rg (0) (59) (x1)) (by decide)) ?_
      obtain ⟨r_10, e_r_10, q_r_10⟩ := thE T_11 q_r_8 (k := 57) (n := 60) (k2 := 4) (b := 59) (p_f_10 : Rg (0) (59) (x1)) (by decide) (by decide) (by decide)
      refine s_ref e_r_10 ?_
      obtain ⟨r_11, e_r_11, q_r_11⟩ := thR T_11 r_x0 (k := 12) (i := 6) (k2 := 6) rfl (by decide)
      refine s_ref e_r_11 ?_
      refine s_ref e_r_8 ?_
      refine s_gd (by rw [thN T_11 q_r_8 (k := 57) (n := 60) rfl (by decide)]; exact rg_inB (p_f_10 : Rg (0) (59) (x1)) (by decide)) ?_
      refine s_ref e_r_10 ?_
      refine s_dJ0 (zX5_seenBy hF T_11 q_r_11 q_r_10 p_f_5) (fun o_15 eb_o_15 e_o_15 => ?_)
      have T_12 := th_eq e_o_15 T_11
      obtain ⟨r_16, e_r_16, q_r_16⟩ := thR T_12 r_x0 (k := 12) (i := 1) (k2 := 10) rfl (by decide)
      refine s_ref e_r_16 ?_
      refine s_cV (zX7_writeRanks hF (pmO_s hi_2101 rfl) (th_id T_11 q_r_8 (k := 57) (w := 3200) e_r_10 rfl (by decide)) (th_id T_12 r_x0 (k := 12) (i := 1) (w := 2101) e_r_16 rfl (by decide)) T_12 q_r_7 q_r_10 q_r_16) (fun o_17 T_13 => ?_)
      obtain ⟨r_18, e_r_18, q_r_18⟩ := thR T_13 r_x0 (k := 12) (i := 1) (k2 := 10) rfl (by decide)
      refine s_ref e_r_18 ?_
      exact s_some ⟨(T_13), (rg_m (thI T_13 q_r_18 (k := 10) (i := 1) rfl : Rg (0) (1200) (hI o_17 r_18 1)) (by decide))⟩
set_option maxRecDepth 20000 in
theorem zX7_writeClock_49 {ρ : Nat → Nat} {c : Cm} {F : Nat} {w_x0 w_x1 : Nat} (hF : 700000 ≤ F) (hO_x1 : pmO c w_x1 [(49, 999), (10, 1)]) {h : Hp} {x0 : Nat} {x1 : Nat} (o_x0 : cw c x0 = w_x0) (o_x1 : cw c x1 = w_x1) (T : TH ρ c h) (r_x0 : ρ x0 = 4) (r_x1 : ρ x1 = 10) : Sat (sX7_writeClock_49 h x0 x1) (ZV ρ c) := by
  unfold sX7_writeClock_49 
  refine s_cV (zX9_append hF (pmO_e o_x1 hO_x1 rfl) T r_x1 (rg_m (rg_add (rg_b rfl : Rg (48) (48) ((48 : Int32))) (rg_rem (thI T r_x0 (k := 4) (i := 6) rfl : Rg (0) (999) ((hI h x0 6))) (rg_b rfl : Rg (10) (10) ((10 : Int32))) (by decide) : Rg (0) (9) (((hI h x0 6) - (hI h x0 6) / (10 : Int32) * (10 : Int32)))) (by decide) : Rg (48) (57) (((48 : Int32) + ((hI h x0 6) - (hI h x0 6) / (10 : Int32) * (10 : Int32))))) (by decide))) (fun o_1 T_1 => ?_)
  exact s_some (T_1)
set_option maxRecDepth 20000 in
theorem zX7_writeClock_23 {ρ : Nat → Nat} {c : Cm} {F : Nat} {w_x0 w_x1 : Nat} (hF : 700000 ≤ F) (hO_x1 : pmO c w_x1 [(49, 999), (10, 1)]) {h : Hp} {x0 : Nat} {x1 : Nat} (o_x0 : cw c x0 = w_x0) (o_x1 : cw c x1 = w_x1) (T : TH ρ c h) (r_x0 : ρ x0 = 4) (r_x1 : ρ x1 = 10) : Sat (sX7_writeClock_23 h x0 x1) (ZV ρ c) := by
  unfold sX7_writeClock_23 
  refine s_br (fun c_1 => ?_) (fun c_1 => ?_)
  · have _ := c_1
    have i_f_2 : Rg (0) (9) ((hI h x0 6)) := rg_lt1 c_1 (thI T r_x0 (k := 4) (i := 6) rfl : Rg (0) (999) ((hI h x0 6))) (rg_b rfl : Rg (10) (10) ((10 : Int32)))
    exact zX7_writeClock_49 hF (pmO_s hO_x1 rfl) o_x0 o_x1 T r_x0 r_x1
  · have _ := c_1
    have i_f_3 : Rg (10) (999) ((hI h x0 6)) := rg_le2 (nlt_le c_1) (rg_b rfl : Rg (10) (10) ((10 : Int32))) (thI T r_x0 (k := 4) (i := 6) rfl : Rg (0) (999) ((hI h x0 6)))
    refine s_cV (zX9_append hF (pmO_e o_x1 hO_x1 rfl) T r_x1 (rg_m (rg_add (rg_b rfl : Rg (48) (48) ((48 : Int32))) (rg_rem (rg_divc i_f_3 (rg_b rfl : Rg (10) (10) ((10 : Int32))) (by decide) : Rg (1) (99) (((hI h x0 6) / (10 : Int32)))) (rg_b rfl : Rg (10) (10) ((10 : Int32))) (by decide) : Rg (0) (9) ((((hI h x0 6) / (10 : Int32)) - ((hI h x0 6) / (10 : Int32)) / (10 : Int32) * (10 : Int32)))) (by decide) : Rg (48) (57) (((48 : Int32) + (((hI h x0 6) / (10 : Int32)) - ((hI h x0 6) / (10 : Int32)) / (10 : Int32) * (10 : Int32))))) (by decide))) (fun o_2 T_4 => ?_)
    exact zX7_writeClock_49 hF (pmO_s hO_x1 rfl) o_x0 o_x1 T_4 r_x0 r_x1
set_option maxRecDepth 20000 in
theorem zX7_writeClock {ρ : Nat → Nat} {c : Cm} {F : Nat} {w_x0 w_x1 : Nat} (hF : 700000 ≤ F) (hO_x1 : pmO c w_x1 [(49, 999), (10, 1)]) {h : Hp} {x0 : Nat} {x1 : Nat} (o_x0 : cw c x0 = w_x0) (o_x1 : cw c x1 = w_x1) (T : TH ρ c h) (r_x0 : ρ x0 = 4) (r_x1 : ρ x1 = 10) : Sat (sX7_writeClock h x0 x1) (ZV ρ c) := by
  unfold sX7_writeClock 
  refine s_br (fun c_1 => ?_) (fun c_1 => ?_)
  · have _ := c_1
    have i_f_2 : Rg (0) (99) ((hI h x0 6)) := rg_lt1 c_1 (thI T r_x0 (k := 4) (i := 6) rfl : Rg (0) (999) ((hI h x0 6))) (rg_b rfl : Rg (100) (100) ((100 : Int32)))
    exact zX7_writeClock_23 hF (pmO_s hO_x1 rfl) o_x0 o_x1 T r_x0 r_x1
  · have _ := c_1
    have i_f_3 : Rg (100) (999) ((hI h x0 6)) := rg_le2 (nlt_le c_1) (rg_b rfl : Rg (100) (100) ((100 : Int32))) (thI T r_x0 (k := 4) (i := 6) rfl : Rg (0) (999) ((hI h x0 6)))
    refine s_cV (zX9_append hF (pmO_e o_x1 hO_x1 rfl) T r_x1 (rg_m (rg_add (rg_b rfl : Rg (48) (48) ((48 : Int32))) (rg_divc i_f_3 (rg_b rfl : Rg (100) (100) ((100 : Int32))) (by decide) : Rg (1) (9) (((hI h x0 6) / (100 : Int32)))) (by decide) : Rg (49) (57) (((48 : Int32) + ((hI h x0 6) / (100 : Int32))))) (by decide))) (fun o_2 T_4 => ?_)
    exact zX7_writeClock_23 hF (pmO_s hO_x1 rfl) o_x0 o_x1 T_4 r_x0 r_x1
set_option maxRecDepth 20000 in
theorem zX7_writeHands_25 {ρ : Nat → Nat} {c : Cm} {F : Nat} {w_x1 w_x2 : Nat} (hF : 700000 ≤ F) {k_2 : Hp → Nat → Nat → Nat → Int32 → Option (Hp)} {C_2 : Int} {k_10 : Hp → Nat → Nat → Nat → Int32 → Int32 → Option (Hp)} {C_10 : Int} (hk_2 : ∀ {h : Hp} {x0 : Nat} {x1 : Nat} {x2 : Nat} {x3 : Int32}, cw c x1 = w_x1 → cw c x2 = w_x2 → TH ρ c h → ρ x0 = 8 → ρ x1 = 4 → ρ x2 = 10 → Rg (0) (2) (x3) → C_2 < x3.toInt → Sat (k_2 h x0 x1 x2 x3) (ZV ρ c)) (hk_10 : ∀ {h : Hp} {x0 : Nat} {x1 : Nat} {x2 : Nat} {x3 : Int32} {x4 : Int32}, cw c x1 = w_x1 → cw c x2 = w_x2 → TH ρ c h → ρ x0 = 8 → ρ x1 = 4 → ρ x2 = 10 → Rg (0) (1) (x3) → Rg (0) (12) (x4) → C_2 ≤ x3.toInt → C_10 < x4.toInt → Sat (k_10 h x0 x1 x2 x3 x4) (ZV ρ c)) (hO_x2 : pmO c w_x2 [(49, 999), (10, 1)]) : ∀ (f : Nat) {h : Hp} {x0 : Nat} {x1 : Nat} {x2 : Nat} {x3 : Int32} {x4 : Int32} {x5 : Int32}, cw c x1 = w_x1 → cw c x2 = w_x2 → TH ρ c h → ρ x0 = 8 → ρ x1 = 4 → ρ x2 = 10 → Rg (0) (1) (x3) → Rg (0) (11) (x4) → Rg (0) (31) (x5) → C_2 ≤ x3.toInt → C_10 ≤ x4.toInt → (31 - x5.toInt).toNat < f → Sat (sX7_writeHands_25 F k_2 k_10 f h x0 x1 x2 x3 x4 x5) (ZV ρ c) := by
  intro f
  induction f with
  | zero => intros; omega
  | succ f ih =>
    intro h x0 x1 x2 x3 x4 x5 o_x1 o_x2 T r_x0 r_x1 r_x2 i_x3 i_x4 i_x5 hc_2 hc_10 hm
    rw [sX7_writeHands_25]
    obtain ⟨C_25, hC_25⟩ : ∃ C : Int, C = x5.toInt := ⟨_, rfl⟩
    have hk_25 : ∀ {h : Hp} {x0 : Nat} {x1 : Nat} {x2 : Nat} {x3 : Int32} {x4 : Int32} {x5 : Int32}, cw c x1 = w_x1 → cw c x2 = w_x2 → TH ρ c h → ρ x0 = 8 → ρ x1 = 4 → ρ x2 = 10 → Rg (0) (1) (x3) → Rg (0) (11) (x4) → Rg (0) (31) (x5) → C_2 ≤ x3.toInt → C_10 ≤ x4.toInt → C_25 < x5.toInt → Sat (sX7_writeHands_25 F k_2 k_10 f h x0 x1 x2 x3 x4 x5) (ZV ρ c) := by
      intro h' x0' x1' x2' x3' x4' x5' o_x1' o_x2' T' r_x0' r_x1' r_x2' i_x3' i_x4' i_x5' hc_2' hc_10' hl
      exact ih o_x1' o_x2' T' r_x0' r_x1' r_x2' i_x3' i_x4' i_x5' hc_2' hc_10' (by have := i_x5'.1; have := i_x5'.2; omega)
    have hc_25 : C_25 ≤ x5.toInt := by omega
    refine s_dI0 (zX3_inHand hF T r_x1 i_x3 (rg_m i_x4 (by decide))) (fun o_1 eb_o_1 e_o_1 i_o_1 => ?_)
    have T_1 := th_eq e_o_1 T
    refine s_br (fun c_2 => ?_) (fun c_2 => ?_)
    · have _ := c_2
      refine s_q (fun v_3 e_3 => ?_)
      have i_v_3 : Rg (1) (12) (v_3) := by rw [e_3]; exact (rg_add i_x4 (rg_b rfl : Rg (1) (1) ((1 : Int32))) (by decide) : Rg (1) (12) (x4 + (1 : Int32)))
      have m_4 : (v_3).toInt = x4.toInt + 1 := by rw [e_3]; exact rg_inc i_x4 (by decide)
      exact hk_10 o_x1 o_x2 T_1 r_x0 r_x1 r_x2 i_x3 (rg_m i_v_3 (by decide)) hc_2 (by have := hc_10; omega)
    · have _ := c_2
      have i_f_5 : Rg (0) (30) (x5) := rg_lt1 (nle_lt c_2) i_x5 i_o_1
      have i_f_6 : Rg (1) (31) (o_1.1) := rg_lt2 (nle_lt c_2) i_x5 i_o_1
      obtain ⟨r_4, e_r_4, q_r_4⟩ := thR T_1 r_x0 (k := 8) (i := 0) (k2 := 2) rfl (by decide)
      refine s_ref e_r_4 ?_
      refine s_dI0 (zX1_letterOf hF T_1 q_r_4 (rg_m (rg_add (rg_mulc' (rg_b rfl : Rg (2) (2) ((2 : Int32))) i_x4 (by decide) : Rg (0) (22) (((2 : Int32) * x4))) i_x3 (by decide) : Rg (0) (23) ((((2 : Int32) * x4) + x3))) (by decide))) (fun o_5 eb_o_5 e_o_5 i_o_5 => ?_)
      have T_7 := th_eq e_o_5 T_1
      refine s_cV (zX9_append hF (pmO_e o_x2 hO_x2 rfl) T_7 r_x2 (rg_m i_o_5 (by decide))) (fun o_6 T_8 => ?_)
      refine s_q (fun v_7 e_9 => ?_)
      have i_v_7 : Rg (1) (31) (v_7) := by rw [e_9]; exact (rg_add i_f_5 (rg_b rfl : Rg (1) (1) ((1 : Int32))) (by decide) : Rg (1) (31) (x5 + (1 : Int32)))
      have m_10 : (v_7).toInt = x5.toInt + 1 := by rw [e_9]; exact rg_inc i_f_5 (by decide)
      exact hk_25 o_x1 o_x2 T_8 r_x0 r_x1 r_x2 i_x3 i_x4 (rg_m i_v_7 (by decide)) hc_2 hc_10 (by have := hc_25; omega)
set_option maxRecDepth 20000 in
theorem zX7_writeHands_10 {ρ : Nat → Nat} {c : Cm} {F : Nat} {w_x1 w_x2 : Nat} (hF : 700000 ≤ F) {k_2 : Hp → Nat → Nat → Nat → Int32 → Option (Hp)} {C_2 : Int} (hk_2 : ∀ {h : Hp} {x0 : Nat} {x1 : Nat} {x2 : Nat} {x3 : Int32}, cw c x1 = w_x1 → cw c x2 = w_x2 → TH ρ c h → ρ x0 = 8 → ρ x1 = 4 → ρ x2 = 10 → Rg (0) (2) (x3) → C_2 < x3.toInt → Sat (k_2 h x0 x1 x2 x3) (ZV ρ c)) (hO_x2 : pmO c w_x2 [(49, 999), (10, 1)]) : ∀ (f : Nat) {h : Hp} {x0 : Nat} {x1 : Nat} {x2 : Nat} {x3 : Int32} {x4 : Int32}, cw c x1 = w_x1 → cw c x2 = w_x2 → TH ρ c h → ρ x0 = 8 → ρ x1 = 4 → ρ x2 = 10 → Rg (0) (1) (x3) → Rg (0) (12) (x4) → C_2 ≤ x3.toInt → (12 - x4.toInt).toNat < f → Sat (sX7_writeHands_10 F k_2 f h x0 x1 x2 x3 x4) (ZV ρ c) := by
  intro f
  induction f with
  | zero => intros; omega
  | succ f ih =>
    intro h x0 x1 x2 x3 x4 o_x1 o_x2 T r_x0 r_x1 r_x2 i_x3 i_x4 hc_2 hm
    rw [sX7_writeHands_10]
    obtain ⟨C_10, hC_10⟩ : ∃ C : Int, C = x4.toInt := ⟨_, rfl⟩
    have hk_10 : ∀ {h : Hp} {x0 : Nat} {x1 : Nat} {x2 : Nat} {x3 : Int32} {x4 : Int32}, cw c x1 = w_x1 → cw c x2 = w_x2 → TH ρ c h → ρ x0 = 8 → ρ x1 = 4 → ρ x2 = 10 → Rg (0) (1) (x3) → Rg (0) (12) (x4) → C_2 ≤ x3.toInt → C_10 < x4.toInt → Sat (sX7_writeHands_10 F k_2 f h x0 x1 x2 x3 x4) (ZV ρ c) := by
      intro h' x0' x1' x2' x3' x4' o_x1' o_x2' T' r_x0' r_x1' r_x2' i_x3' i_x4' hc_2' hl
      exact ih o_x1' o_x2' T' r_x0' r_x1' r_x2' i_x3' i_x4' hc_2' (by have := i_x4'.1; have := i_x4'.2; omega)
    have hc_10 : C_10 ≤ x4.toInt := by omega
    obtain ⟨r_1, e_r_1, q_r_1⟩ := thR T r_x0 (k := 8) (i := 0) (k2 := 2) rfl (by decide)
    refine s_ref e_r_1 ?_
    refine s_br (fun c_1 => ?_) (fun c_1 => ?_)
    · have _ := c_1
      refine s_q (fun v_3 e_2 => ?_)
      have i_v_3 : Rg (1) (2) (v_3) := by rw [e_2]; exact (rg_add i_x3 (rg_b rfl : Rg (1) (1) ((1 : Int32))) (by decide) : Rg (1) (2) (x3 + (1 : Int32)))
      have m_3 : (v_3).toInt = x3.toInt + 1 := by rw [e_2]; exact rg_inc i_x3 (by decide)
      exact hk_2 o_x1 o_x2 T r_x0 r_x1 r_x2 (rg_m i_v_3 (by decide)) (by have := hc_2; omega)
    · have _ := c_1
      have i_f_4 : Rg (0) (11) (x4) := rg_lt1 (nle_lt c_1) i_x4 (thI T q_r_1 (k := 2) (i := 3) rfl : Rg (0) (12) ((hI h r_1 3)))
      have i_f_5 : Rg (1) (12) ((hI h r_1 3)) := rg_lt2 (nle_lt c_1) i_x4 (thI T q_r_1 (k := 2) (i := 3) rfl : Rg (0) (12) ((hI h r_1 3)))
      have m_6 : Rg (0) (31) ((0 : Int32)) := (rg_m (rg_b rfl : Rg (0) (0) ((0 : Int32))) (by decide))
      exact zX7_writeHands_25 hF @hk_2 @hk_10 (pmO_s hO_x2 rfl) F o_x1 o_x2 T r_x0 r_x1 r_x2 i_x3 i_f_4 (rg_m (rg_b rfl : Rg (0) (0) ((0 : Int32))) (by decide)) hc_2 hc_10 (by have := m_6.1; have := m_6.2; omega)
set_option maxRecDepth 20000 in
theorem zX7_writeHands_2 {ρ : Nat → Nat} {c : Cm} {F : Nat} {w_x1 w_x2 : Nat} (hF : 700000 ≤ F) (hO_x2 : pmO c w_x2 [(49, 999), (10, 1)]) : ∀ (f : Nat) {h : Hp} {x0 : Nat} {x1 : Nat} {x2 : Nat} {x3 : Int32}, cw c x1 = w_x1 → cw c x2 = w_x2 → TH ρ c h → ρ x0 = 8 → ρ x1 = 4 → ρ x2 = 10 → Rg (0) (2) (x3) → (2 - x3.toInt).toNat < f → Sat (sX7_writeHands_2 F f h x0 x1 x2 x3) (ZV ρ c) := by
  intro f
  induction f with
  | zero => intros; omega
  | succ f ih =>
    intro h x0 x1 x2 x3 o_x1 o_x2 T r_x0 r_x1 r_x2 i_x3 hm
    rw [sX7_writeHands_2]
    unfold sX7_writeHands_100
    obtain ⟨C_2, hC_2⟩ : ∃ C : Int, C = x3.toInt := ⟨_, rfl⟩
    have hk_2 : ∀ {h : Hp} {x0 : Nat} {x1 : Nat} {x2 : Nat} {x3 : Int32}, cw c x1 = w_x1 → cw c x2 = w_x2 → TH ρ c h → ρ x0 = 8 → ρ x1 = 4 → ρ x2 = 10 → Rg (0) (2) (x3) → C_2 < x3.toInt → Sat (sX7_writeHands_2 F f h x0 x1 x2 x3) (ZV ρ c) := by
      intro h' x0' x1' x2' x3' o_x1' o_x2' T' r_x0' r_x1' r_x2' i_x3' hl
      exact ih o_x1' o_x2' T' r_x0' r_x1' r_x2' i_x3' (by have := i_x3'.1; have := i_x3'.2; omega)
    have hc_2 : C_2 ≤ x3.toInt := by omega
    refine s_br (fun c_1 => ?_) (fun c_1 => ?_)
    · have _ := c_1
      have i_f_2 : Rg (2) (2) (x3) := rg_le2 c_1 (rg_b rfl : Rg (2) (2) ((2 : Int32))) i_x3
      obtain ⟨r_2, e_r_2, q_r_2⟩ := thR T r_x1 (k := 4) (i := 3) (k2 := 37) rfl (by decide)
      refine s_ref e_r_2 ?_
      refine s_gd (by rw [thN T q_r_2 (k := 37) (n := 2) rfl (by decide)]; exact rg_inB ((rg_m (rg_b rfl : Rg (0) (0) ((0 : Int32))) (by decide)) : Rg (0) (1) ((0 : Int32))) (by decide)) ?_
      refine s_br (fun c_3 => ?_) (fun c_3 => ?_)
      · have _ := c_3
        refine s_ref e_r_2 ?_
        refine s_gd (by rw [thN T q_r_2 (k := 37) (n := 2) rfl (by decide)]; exact rg_inB ((rg_m (rg_b rfl : Rg (1) (1) ((1 : Int32))) (by decide)) : Rg (0) (1) ((1 : Int32))) (by decide)) ?_
        refine s_br (fun c_4 => ?_) (fun c_4 => ?_)
        · have _ := c_4
          refine s_cV (zX9_append hF (pmO_e o_x2 hO_x2 rfl) T r_x2 (rg_m (rg_b rfl : Rg (45) (45) ((45 : Int32))) (by decide))) (fun o_8 T_5 => ?_)
          exact s_some (T_5)
        · have _ := c_4
          exact s_some (T)
      · have _ := c_3
        exact s_some (T)
    · have _ := c_1
      have i_f_6 : Rg (0) (1) (x3) := rg_lt1 (nle_lt c_1) i_x3 (rg_b rfl : Rg (2) (2) ((2 : Int32)))
      have m_7 : Rg (0) (12) ((0 : Int32)) := (rg_m (rg_b rfl : Rg (0) (0) ((0 : Int32))) (by decide))
      exact zX7_writeHands_10 hF @hk_2 (pmO_s hO_x2 rfl) F o_x1 o_x2 T r_x0 r_x1 r_x2 i_f_6 (rg_m (rg_b rfl : Rg (0) (0) ((0 : Int32))) (by decide)) hc_2 (by have := m_7.1; have := m_7.2; omega)
set_option maxRecDepth 20000 in
theorem zX7_writeHands {ρ : Nat → Nat} {c : Cm} {F : Nat} {w_x1 w_x2 : Nat} (hF : 700000 ≤ F) (hO_x2 : pmO c w_x2 [(49, 999), (10, 1)]) {h : Hp} {x0 : Nat} {x1 : Nat} {x2 : Nat} (o_x1 : cw c x1 = w_x1) (o_x2 : cw c x2 = w_x2) (T : TH ρ c h) (r_x0 : ρ x0 = 8) (r_x1 : ρ x1 = 4) (r_x2 : ρ x2 = 10) : Sat (sX7_writeHands F h x0 x1 x2) (ZV ρ c) := by
  unfold sX7_writeHands 
  have m_1 : Rg (0) (2) ((0 : Int32)) := (rg_m (rg_b rfl : Rg (0) (0) ((0 : Int32))) (by decide))
  exact zX7_writeHands_2 hF (pmO_s hO_x2 rfl) F o_x1 o_x2 T r_x0 r_x1 r_x2 (rg_m (rg_b rfl : Rg (0) (0) ((0 : Int32))) (by decide)) (by have := m_1.1; have := m_1.2; omega)
set_option maxRecDepth 20000 in
theorem zX7_writePass_2 {ρ : Nat → Nat} {c : Cm} {F : Nat} {w_x1 w_x2 : Nat} (hF : 700000 ≤ F) (hO_x2 : pmO c w_x2 [(49, 999), (10, 1)]) : ∀ (f : Nat) {h : Hp} {x0 : Nat} {x1 : Nat} {x2 : Nat} {x3 : Int32}, cw c x1 = w_x1 → cw c x2 = w_x2 → TH ρ c h → ρ x0 = 8 → ρ x1 = 4 → ρ x2 = 10 → Rg (0) (7) (x3) → (7 - x3.toInt).toNat < f → Sat (sX7_writePass_2 F f h x0 x1 x2 x3) (ZV ρ c) := by
  intro f
  induction f with
  | zero => intros; omega
  | succ f ih =>
    intro h x0 x1 x2 x3 o_x1 o_x2 T r_x0 r_x1 r_x2 i_x3 hm
    rw [sX7_writePass_2]
    unfold sX7_writePass_44
    obtain ⟨C_2, hC_2⟩ : ∃ C : Int, C = x3.toInt := ⟨_, rfl⟩
    have hk_2 : ∀ {h : Hp} {x0 : Nat} {x1 : Nat} {x2 : Nat} {x3 : Int32}, cw c x1 = w_x1 → cw c x2 = w_x2 → TH ρ c h → ρ x0 = 8 → ρ x1 = 4 → ρ x2 = 10 → Rg (0) (7) (x3) → C_2 < x3.toInt → Sat (sX7_writePass_2 F f h x0 x1 x2 x3) (ZV ρ c) := by
      intro h' x0' x1' x2' x3' o_x1' o_x2' T' r_x0' r_x1' r_x2' i_x3' hl
      exact ih o_x1' o_x2' T' r_x0' r_x1' r_x2' i_x3' (by have := i_x3'.1; have := i_x3'.2; omega)
    have hc_2 : C_2 ≤ x3.toInt := by omega
    refine s_dI0 (zX3_passSize hF T r_x1) (fun o_1 eb_o_1 e_o_1 i_o_1 => ?_)
    have T_1 := th_eq e_o_1 T
    refine s_br (fun c_2 => ?_) (fun c_2 => ?_)
    · have _ := c_2
      refine s_br (fun c_3 => ?_) (fun c_3 => ?_)
      · have _ := c_3
        refine s_cV (zX9_append hF (pmO_e o_x2 hO_x2 rfl) T_1 r_x2 (rg_m (rg_b rfl : Rg (45) (45) ((45 : Int32))) (by decide))) (fun o_4 T_4 => ?_)
        exact s_some (T_4)
      · have _ := c_3
        exact s_some (T_1)
    · have _ := c_2
      have i_f_5 : Rg (0) (6) (x3) := rg_lt1 (nle_lt c_2) i_x3 i_o_1
      have i_f_6 : Rg (1) (7) (o_1.1) := rg_lt2 (nle_lt c_2) i_x3 i_o_1
      obtain ⟨r_5, e_r_5, q_r_5⟩ := thR T_1 r_x0 (k := 8) (i := 0) (k2 := 2) rfl (by decide)
      refine s_ref e_r_5 ?_
      refine s_dI0 (zX3_passSquare hF T_1 r_x1 i_f_5) (fun o_6 eb_o_6 e_o_6 i_o_6 => ?_)
      have T_7 := th_eq e_o_6 T_1
      refine s_cV (zX7_writeSquare hF (pmO_s hO_x2 rfl) (th_id T_1 r_x0 (k := 8) (i := 0) (w := 2102) e_r_5 rfl (by decide)) o_x2 T_7 q_r_5 i_o_6 r_x2) (fun o_7 T_8 => ?_)
      refine s_q (fun v_8 e_9 => ?_)
      have i_v_8 : Rg (1) (7) (v_8) := by rw [e_9]; exact (rg_add i_f_5 (rg_b rfl : Rg (1) (1) ((1 : Int32))) (by decide) : Rg (1) (7) (x3 + (1 : Int32)))
      have m_10 : (v_8).toInt = x3.toInt + 1 := by rw [e_9]; exact rg_inc i_f_5 (by decide)
      exact hk_2 o_x1 o_x2 T_8 r_x0 r_x1 r_x2 (rg_m i_v_8 (by decide)) (by have := hc_2; omega)
set_option maxRecDepth 20000 in
theorem zX7_writePass {ρ : Nat → Nat} {c : Cm} {F : Nat} {w_x1 w_x2 : Nat} (hF : 700000 ≤ F) (hO_x2 : pmO c w_x2 [(49, 999), (10, 1)]) {h : Hp} {x0 : Nat} {x1 : Nat} {x2 : Nat} (o_x1 : cw c x1 = w_x1) (o_x2 : cw c x2 = w_x2) (T : TH ρ c h) (r_x0 : ρ x0 = 8) (r_x1 : ρ x1 = 4) (r_x2 : ρ x2 = 10) : Sat (sX7_writePass F h x0 x1 x2) (ZV ρ c) := by
  unfold sX7_writePass 
  have m_1 : Rg (0) (7) ((0 : Int32)) := (rg_m (rg_b rfl : Rg (0) (0) ((0 : Int32))) (by decide))
  exact zX7_writePass_2 hF (pmO_s hO_x2 rfl) F o_x1 o_x2 T r_x0 r_x1 r_x2 (rg_m (rg_b rfl : Rg (0) (0) ((0 : Int32))) (by decide)) (by have := m_1.1; have := m_1.2; omega)
set_option maxRecDepth 20000 in
theorem zX7_writeRights_2 {ρ : Nat → Nat} {c : Cm} {F : Nat} {w_x1 w_x2 : Nat} (hF : 700000 ≤ F) (hO_x2 : pmO c w_x2 [(49, 999), (10, 1)]) : ∀ (f : Nat) {h : Hp} {x0 : Nat} {x1 : Nat} {x2 : Nat} {x3 : Int32}, cw c x1 = w_x1 → cw c x2 = w_x2 → TH ρ c h → ρ x0 = 8 → ρ x1 = 4 → ρ x2 = 10 → Rg (0) (64) (x3) → (64 - x3.toInt).toNat < f → Sat (sX7_writeRights_2 F f h x0 x1 x2 x3) (ZV ρ c) := by
  intro f
  induction f with
  | zero => intros; omega
  | succ f ih =>
    intro h x0 x1 x2 x3 o_x1 o_x2 T r_x0 r_x1 r_x2 i_x3 hm
    rw [sX7_writeRights_2]
    unfold sX7_writeRights_56 sX7_writeRights_35
    obtain ⟨C_2, hC_2⟩ : ∃ C : Int, C = x3.toInt := ⟨_, rfl⟩
    have hk_2 : ∀ {h : Hp} {x0 : Nat} {x1 : Nat} {x2 : Nat} {x3 : Int32}, cw c x1 = w_x1 → cw c x2 = w_x2 → TH ρ c h → ρ x0 = 8 → ρ x1 = 4 → ρ x2 = 10 → Rg (0) (64) (x3) → C_2 < x3.toInt → Sat (sX7_writeRights_2 F f h x0 x1 x2 x3) (ZV ρ c) := by
      intro h' x0' x1' x2' x3' o_x1' o_x2' T' r_x0' r_x1' r_x2' i_x3' hl
      exact ih o_x1' o_x2' T' r_x0' r_x1' r_x2' i_x3' (by have := i_x3'.1; have := i_x3'.2; omega)
    have hc_2 : C_2 ≤ x3.toInt := by omega
    obtain ⟨r_1, e_r_1, q_r_1⟩ := thR T r_x0 (k := 8) (i := 0) (k2 := 2) rfl (by decide)
    refine s_ref e_r_1 ?_
    refine s_br (fun c_1 => ?_) (fun c_1 => ?_)
    · have _ := c_1
      refine s_br (fun c_2 => ?_) (fun c_2 => ?_)
      · have _ := c_2
        refine s_cV (zX9_append hF (pmO_e o_x2 hO_x2 rfl) T r_x2 (rg_m (rg_b rfl : Rg (45) (45) ((45 : Int32))) (by decide))) (fun o_4 T_3 => ?_)
        exact s_some (T_3)
      · have _ := c_2
        exact s_some (T)
    · have _ := c_1
      have i_f_4 : Rg (0) (63) (x3) := rg_lt1 (nle_lt c_1) i_x3 (thI T q_r_1 (k := 2) (i := 2) rfl : Rg (0) (64) ((hI h r_1 2)))
      have i_f_5 : Rg (1) (64) ((hI h r_1 2)) := rg_lt2 (nle_lt c_1) i_x3 (thI T q_r_1 (k := 2) (i := 2) rfl : Rg (0) (64) ((hI h r_1 2)))
      refine s_br (fun c_6 => ?_) (fun c_6 => ?_)
      · have _ := c_6
        refine s_q (fun v_1q3 e_7 => ?_)
        have i_v_1q3 : Rg (1) (64) (v_1q3) := by rw [e_7]; exact (rg_add i_f_4 (rg_b rfl : Rg (1) (1) ((1 : Int32))) (by decide) : Rg (1) (64) (x3 + (1 : Int32)))
        have m_8 : (v_1q3).toInt = x3.toInt + 1 := by rw [e_7]; exact rg_inc i_f_4 (by decide)
        exact hk_2 o_x1 o_x2 T r_x0 r_x1 r_x2 (rg_m i_v_1q3 (by decide)) (by have := hc_2; omega)
      · have _ := c_6
        refine s_ref e_r_1 ?_
        refine s_cV (zX7_writeSquare hF (pmO_s hO_x2 rfl) (th_id T r_x0 (k := 8) (i := 0) (w := 2102) e_r_1 rfl (by decide)) o_x2 T q_r_1 i_f_4 r_x2) (fun o_7 T_9 => ?_)
        refine s_q (fun v_1q4 e_10 => ?_)
        have i_v_1q4 : Rg (1) (64) (v_1q4) := by rw [e_10]; exact (rg_add i_f_4 (rg_b rfl : Rg (1) (1) ((1 : Int32))) (by decide) : Rg (1) (64) (x3 + (1 : Int32)))
        have m_11 : (v_1q4).toInt = x3.toInt + 1 := by rw [e_10]; exact rg_inc i_f_4 (by decide)
        exact hk_2 o_x1 o_x2 T_9 r_x0 r_x1 r_x2 (rg_m i_v_1q4 (by decide)) (by have := hc_2; omega)
set_option maxRecDepth 20000 in
theorem zX7_writeRights {ρ : Nat → Nat} {c : Cm} {F : Nat} {w_x1 w_x2 : Nat} (hF : 700000 ≤ F) (hO_x2 : pmO c w_x2 [(49, 999), (10, 1)]) {h : Hp} {x0 : Nat} {x1 : Nat} {x2 : Nat} (o_x1 : cw c x1 = w_x1) (o_x2 : cw c x2 = w_x2) (T : TH ρ c h) (r_x0 : ρ x0 = 8) (r_x1 : ρ x1 = 4) (r_x2 : ρ x2 = 10) : Sat (sX7_writeRights F h x0 x1 x2) (ZV ρ c) := by
  unfold sX7_writeRights 
  have m_1 : Rg (0) (64) ((0 : Int32)) := (rg_m (rg_b rfl : Rg (0) (0) ((0 : Int32))) (by decide))
  exact zX7_writeRights_2 hF (pmO_s hO_x2 rfl) F o_x1 o_x2 T r_x0 r_x1 r_x2 (rg_m (rg_b rfl : Rg (0) (0) ((0 : Int32))) (by decide)) (by have := m_1.1; have := m_1.2; omega)
set_option maxRecDepth 20000 in
theorem zX7_writeAll_30 {ρ : Nat → Nat} {c : Cm} {F : Nat} {w_x1 w_x2 w_t1 : Nat} (hF : 700000 ≤ F) (hO_t1 : pmO c w_t1 [(49, 999), (10, 1)]) (hO_x2 : pmO c w_x2 [(49, 999), (10, 1)]) {h : Hp} {x0 : Nat} {x1 : Nat} {x2 : Nat} {t0 : Int32} {t1 : Nat} (o_x1 : cw c x1 = w_x1) (o_x2 : cw c x2 = w_x2) (o_t1 : cw c t1 = w_t1) (T : TH ρ c h) (r_x0 : ρ x0 = 8) (r_x1 : ρ x1 = 4) (r_x2 : ρ x2 = 10) (i_t0 : Rg (98) (119) (t0)) (r_t1 : ρ t1 = 10) : Sat (sX7_writeAll_30 F h x0 x1 x2 t0 t1) (ZV ρ c) := by
  unfold sX7_writeAll_30 
  refine s_cV (zX9_append hF (pmO_e o_t1 hO_t1 rfl) T r_t1 (rg_m i_t0 (by decide))) (fun o_1 T_1 => ?_)
  refine s_cV (zX9_append hF (pmO_e o_x2 hO_x2 rfl) T_1 r_x2 (rg_m (rg_b rfl : Rg (32) (32) ((32 : Int32))) (by decide))) (fun o_2 T_2 => ?_)
  refine s_cV (zX7_writeRights hF (pmO_s hO_x2 rfl) o_x1 o_x2 T_2 r_x0 r_x1 r_x2) (fun o_3 T_3 => ?_)
  refine s_cV (zX9_append hF (pmO_e o_x2 hO_x2 rfl) T_3 r_x2 (rg_m (rg_b rfl : Rg (32) (32) ((32 : Int32))) (by decide))) (fun o_4 T_4 => ?_)
  refine s_cV (zX7_writePass hF (pmO_s hO_x2 rfl) o_x1 o_x2 T_4 r_x0 r_x1 r_x2) (fun o_5 T_5 => ?_)
  refine s_cV (zX9_append hF (pmO_e o_x2 hO_x2 rfl) T_5 r_x2 (rg_m (rg_b rfl : Rg (32) (32) ((32 : Int32))) (by decide))) (fun o_6 T_6 => ?_)
  refine s_cV (zX7_writeHands hF (pmO_s hO_x2 rfl) o_x1 o_x2 T_6 r_x0 r_x1 r_x2) (fun o_7 T_7 => ?_)
  refine s_cV (zX9_append hF (pmO_e o_x2 hO_x2 rfl) T_7 r_x2 (rg_m (rg_b rfl : Rg (32) (32) ((32 : Int32))) (by decide))) (fun o_8 T_8 => ?_)
  obtain ⟨r_9, e_r_9, q_r_9⟩ := thR T_8 r_x1 (k := 4) (i := 4) (k2 := 38) rfl (by decide)
  refine s_ref e_r_9 ?_
  refine s_gd (by rw [thN T_8 q_r_9 (k := 38) (n := 2) rfl (by decide)]; exact rg_inB ((rg_m (rg_b rfl : Rg (0) (0) ((0 : Int32))) (by decide)) : Rg (0) (1) ((0 : Int32))) (by decide)) ?_
  refine s_cV (zX9_append hF (pmO_e o_x2 hO_x2 rfl) T_8 r_x2 (rg_m (rg_add (rg_b rfl : Rg (48) (48) ((48 : Int32))) (thI T_8 q_r_9 (k := 38) rfl : Rg (0) (9) ((hI o_8 r_9 (0 : Int32).toNatClampNeg))) (by decide) : Rg (48) (57) (((48 : Int32) + (hI o_8 r_9 (0 : Int32).toNatClampNeg)))) (by decide))) (fun o_11 T_9 => ?_)
  obtain ⟨r_12, e_r_12, q_r_12⟩ := thR T_9 r_x1 (k := 4) (i := 4) (k2 := 38) rfl (by decide)
  refine s_ref e_r_12 ?_
  refine s_gd (by rw [thN T_9 q_r_12 (k := 38) (n := 2) rfl (by decide)]; exact rg_inB ((rg_m (rg_b rfl : Rg (1) (1) ((1 : Int32))) (by decide)) : Rg (0) (1) ((1 : Int32))) (by decide)) ?_
  refine s_cV (zX9_append hF (pmO_e o_x2 hO_x2 rfl) T_9 r_x2 (rg_m (rg_add (rg_b rfl : Rg (48) (48) ((48 : Int32))) (thI T_9 q_r_12 (k := 38) rfl : Rg (0) (9) ((hI o_11 r_12 (1 : Int32).toNatClampNeg))) (by decide) : Rg (48) (57) (((48 : Int32) + (hI o_11 r_12 (1 : Int32).toNatClampNeg)))) (by decide))) (fun o_14 T_10 => ?_)
  refine s_cV (zX9_append hF (pmO_e o_x2 hO_x2 rfl) T_10 r_x2 (rg_m (rg_b rfl : Rg (32) (32) ((32 : Int32))) (by decide))) (fun o_15 T_11 => ?_)
  refine s_cV (zX7_writeClock hF (pmO_s hO_x2 rfl) o_x1 o_x2 T_11 r_x1 r_x2) (fun o_16 T_12 => ?_)
  exact s_some (T_12)
set_option maxRecDepth 20000 in
theorem zX7_writeAll {ρ : Nat → Nat} {c : Cm} {F : Nat} {w_x1 w_x2 : Nat} (hF : 700000 ≤ F) (hO_x2 : pmO c w_x2 [(49, 999), (10, 1)]) {h : Hp} {x0 : Nat} {x1 : Nat} {x2 : Nat} (o_x1 : cw c x1 = w_x1) (o_x2 : cw c x2 = w_x2) (T : TH ρ c h) (r_x0 : ρ x0 = 8) (r_x1 : ρ x1 = 4) (r_x2 : ρ x2 = 10) : Sat (sX7_writeAll F h x0 x1 x2) (ZV ρ c) := by
  unfold sX7_writeAll 
  refine s_cV (zX7_writeRanks hF (pmO_s hO_x2 rfl) o_x1 o_x2 T r_x0 r_x1 r_x2) (fun o_1 T_1 => ?_)
  refine s_cV (zX9_append hF (pmO_e o_x2 hO_x2 rfl) T_1 r_x2 (rg_m (rg_b rfl : Rg (32) (32) ((32 : Int32))) (by decide))) (fun o_2 T_2 => ?_)
  refine s_br (fun c_3 => ?_) (fun c_3 => ?_)
  · have _ := c_3
    have i_f_4 : Rg (0) (0) ((hI o_2 x1 5)) := rg_eq c_3 (rg_b rfl : Rg (0) (0) (0 : Int32))
    exact zX7_writeAll_30 hF (pmO_s hO_x2 rfl) (pmO_s hO_x2 rfl) o_x1 o_x2 o_x2 T_2 r_x0 r_x1 r_x2 (rg_m (rg_b rfl : Rg (119) (119) ((119 : Int32))) (by decide)) r_x2
  · have _ := c_3
    have i_f_5 : Rg (1) (1) ((hI o_2 x1 5)) := rg_nlo c_3 (thI T_2 r_x1 (k := 4) (i := 5) rfl : Rg (0) (1) ((hI o_2 x1 5))) (rg_b rfl : Rg (0) (0) (0 : Int32))
    exact zX7_writeAll_30 hF (pmO_s hO_x2 rfl) (pmO_s hO_x2 rfl) o_x1 o_x2 o_x2 T_2 r_x0 r_x1 r_x2 (rg_m (rg_b rfl : Rg (98) (98) ((98 : Int32))) (by decide)) r_x2
set_option maxRecDepth 20000 in
theorem zX11_write {ρ : Nat → Nat} {c : Cm} {F : Nat} (hF : 700000 ≤ F) (hi_2101 : pmO c 2101 [(49, 999), (10, 1)]) {h : Hp} {x0 : Nat} {x1 : Int32} (T : TH ρ c h) (r_x0 : ρ x0 = 12) (i_x1 : Rg (-2147483648) (2147483647) (x1)) : Sat (sX11_write F h x0 x1) (ZI ρ c (-102) (1200)) := by
  unfold sX11_write 
  refine s_dP0 (zX11_isPlace hF T r_x0 i_x1) (fun o_1 eb_o_1 e_o_1 i_o_1 p_o_1 => ?_)
  have T_1 := th_eq e_o_1 T
  refine s_br (fun c_2 => ?_) (fun c_2 => ?_)
  · have _ := c_2
    have i_f_3 : Rg (0) (0) (o_1.1) := rg_eq c_2 (rg_b rfl : Rg (0) (0) (0 : Int32))
    exact s_some ⟨(T_1), (rg_m (rg_b rfl : Rg (-102) (-102) ((- 102 : Int32))) (by decide))⟩
  · have _ := c_2
    have i_f_4 : Rg (1) (1) (o_1.1) := rg_nlo c_2 i_o_1 (rg_b rfl : Rg (0) (0) (0 : Int32))
    have p_f_5 := p_o_1 c_2
    obtain ⟨r_3, e_r_3, q_r_3⟩ := thR T_1 r_x0 (k := 12) (i := 1) (k2 := 10) rfl (by decide)
    refine s_ref e_r_3 ?_
    refine s_cV (zX9_clear hF (pmO_e (th_id T_1 r_x0 (k := 12) (i := 1) (w := 2101) e_r_3 rfl (by decide)) hi_2101 rfl) T_1 q_r_3) (fun o_4 T_6 => ?_)
    obtain ⟨r_5, e_r_5, q_r_5⟩ := thR T_6 r_x0 (k := 12) (i := 7) (k2 := 8) rfl (by decide)
    refine s_ref e_r_5 ?_
    obtain ⟨r_6, e_r_6, q_r_6⟩ := thR T_6 r_x0 (k := 12) (i := 13) (k2 := 57) rfl (by decide)
    refine s_ref e_r_6 ?_
    refine s_gd (by rw [thN T_6 q_r_6 (k := 57) (n := 60) rfl (by decide)]; exact rg_inB (p_f_5 : Rg (0) (59) (x1)) (by decide)) ?_
    obtain ⟨r_8, e_r_8, q_r_8⟩ := thE T_6 q_r_6 (k := 57) (n := 60) (k2 := 4) (b := 59) (p_f_5 : Rg (0) (59) (x1)) (by decide) (by decide) (by decide)
    refine s_ref e_r_8 ?_
    obtain ⟨r_9, e_r_9, q_r_9⟩ := thR T_6 r_x0 (k := 12) (i := 1) (k2 := 10) rfl (by decide)
    refine s_ref e_r_9 ?_
    refine s_cV (zX7_writeAll hF (pmO_s hi_2101 rfl) (th_id T_6 q_r_6 (k := 57) (w := 3200) e_r_8 rfl (by decide)) (th_id T_6 r_x0 (k := 12) (i := 1) (w := 2101) e_r_9 rfl (by decide)) T_6 q_r_5 q_r_8 q_r_9) (fun o_10 T_7 => ?_)
    obtain ⟨r_11, e_r_11, q_r_11⟩ := thR T_7 r_x0 (k := 12) (i := 1) (k2 := 10) rfl (by decide)
    refine s_ref e_r_11 ?_
    exact s_some ⟨(T_7), (rg_m (thI T_7 q_r_11 (k := 10) (i := 1) rfl : Rg (0) (1200) (hI o_10 r_11 1)) (by decide))⟩
set_option maxRecDepth 20000 in
theorem zX12_clear_38 {ρ : Nat → Nat} {c : Cm} {F : Nat} {w_x0 : Nat} (hF : 700000 ≤ F) (hO_x0 : pmO c w_x0 [(64, 999), (65, 999), (13, 7)]) : ∀ (f : Nat) {h : Hp} {x0 : Nat} {x1 : Int32}, cw c x0 = w_x0 → TH ρ c h → ρ x0 = 13 → Rg (0) (24) (x1) → (24 - x1.toInt).toNat < f → Sat (sX12_clear_38 F f h x0 x1) (ZV ρ c) := by
  intro f
  induction f with
  | zero => intros; omega
  | succ f ih =>
    intro h x0 x1 o_x0 T r_x0 i_x1 hm
    rw [sX12_clear_38]
    obtain ⟨C_38, hC_38⟩ : ∃ C : Int, C = x1.toInt := ⟨_, rfl⟩
    have hk_38 : ∀ {h : Hp} {x0 : Nat} {x1 : Int32}, cw c x0 = w_x0 → TH ρ c h → ρ x0 = 13 → Rg (0) (24) (x1) → C_38 < x1.toInt → Sat (sX12_clear_38 F f h x0 x1) (ZV ρ c) := by
      intro h' x0' x1' o_x0' T' r_x0' i_x1' hl
      exact ih o_x0' T' r_x0' i_x1' (by have := i_x1'.1; have := i_x1'.2; omega)
    have hc_38 : C_38 ≤ x1.toInt := by omega
    refine s_br (fun c_1 => ?_) (fun c_1 => ?_)
    · have _ := c_1
      have i_f_2 : Rg (24) (24) (x1) := rg_le2 c_1 (rg_b rfl : Rg (24) (24) ((24 : Int32))) i_x1
      obtain ⟨r_2, e_r_2, q_r_2⟩ := thR T r_x0 (k := 13) (i := 6) (k2 := 65) rfl (by decide)
      refine s_ref e_r_2 ?_
      refine s_gd (by rw [thN T q_r_2 (k := 65) (n := 2) rfl (by decide)]; exact rg_inB ((rg_m (rg_b rfl : Rg (0) (0) ((0 : Int32))) (by decide)) : Rg (0) (1) ((0 : Int32))) (by decide)) ?_
      refine s_hq (th_wI T q_r_2 (k := 65) (lo := (0)) (hi := (9)) rfl ((rg_m (rg_b rfl : Rg (0) (0) ((0 : Int32))) (by decide)) : Rg (0) (9) ((0 : Int32))) (by decide) (by decide) (pm_o hO_x0 (th_ih T r_x0 (k := 13) rfl e_r_2 o_x0) rfl)) (fun h_4 T_3 w_4 => ?_)
      refine s_ref (hr_w w_4 e_r_2) ?_
      refine s_gd (by rw [thN T_3 q_r_2 (k := 65) (n := 2) rfl (by decide)]; exact rg_inB ((rg_m (rg_b rfl : Rg (1) (1) ((1 : Int32))) (by decide)) : Rg (0) (1) ((1 : Int32))) (by decide)) ?_
      refine s_hq (th_wI T_3 q_r_2 (k := 65) (lo := (0)) (hi := (9)) rfl ((rg_m (rg_b rfl : Rg (0) (0) ((0 : Int32))) (by decide)) : Rg (0) (9) ((0 : Int32))) (by decide) (by decide) (pm_o hO_x0 (th_ih T r_x0 (k := 13) rfl e_r_2 o_x0) rfl)) (fun h_7 T_5 w_6 => ?_)
      refine s_hq (th_wI T_5 r_x0 (k := 13) (lo := (0)) (hi := (999)) rfl ((rg_m (rg_b rfl : Rg (0) (0) ((0 : Int32))) (by decide)) : Rg (0) (999) ((0 : Int32))) (by decide) (by decide) (pm_o hO_x0 o_x0 rfl)) (fun h_8 T_7 w_8 => ?_)
      exact s_some (T_7)
    · have _ := c_1
      have i_f_9 : Rg (0) (23) (x1) := rg_lt1 (nle_lt c_1) i_x1 (rg_b rfl : Rg (24) (24) ((24 : Int32)))
      obtain ⟨r_9, e_r_9, q_r_9⟩ := thR T r_x0 (k := 13) (i := 5) (k2 := 64) rfl (by decide)
      refine s_ref e_r_9 ?_
      refine s_gd (by rw [thN T q_r_9 (k := 64) (n := 24) rfl (by decide)]; exact rg_inB (i_f_9 : Rg (0) (23) (x1)) (by decide)) ?_
      refine s_hq (th_wI T q_r_9 (k := 64) (lo := (0)) (hi := (16)) rfl ((rg_m (rg_b rfl : Rg (0) (0) ((0 : Int32))) (by decide)) : Rg (0) (16) ((0 : Int32))) (by decide) (by decide) (pm_o hO_x0 (th_ih T r_x0 (k := 13) rfl e_r_9 o_x0) rfl)) (fun h_11 T_10 w_11 => ?_)
      refine s_q (fun v_12 e_12 => ?_)
      have i_v_12 : Rg (1) (24) (v_12) := by rw [e_12]; exact (rg_add i_f_9 (rg_b rfl : Rg (1) (1) ((1 : Int32))) (by decide) : Rg (1) (24) (x1 + (1 : Int32)))
      have m_13 : (v_12).toInt = x1.toInt + 1 := by rw [e_12]; exact rg_inc i_f_9 (by decide)
      exact hk_38 o_x0 T_10 r_x0 (rg_m i_v_12 (by decide)) (by have := hc_38; omega)
set_option maxRecDepth 20000 in
theorem zX12_clear_2 {ρ : Nat → Nat} {c : Cm} {F : Nat} {w_x0 : Nat} (hF : 700000 ≤ F) (hO_x0 : pmO c w_x0 [(62, 999), (64, 999), (65, 999), (13, 1), (13, 2), (13, 3), (13, 7)]) : ∀ (f : Nat) {h : Hp} {x0 : Nat} {x1 : Int32}, cw c x0 = w_x0 → TH ρ c h → ρ x0 = 13 → Rg (0) (64) (x1) → (64 - x1.toInt).toNat < f → Sat (sX12_clear_2 F f h x0 x1) (ZV ρ c) := by
  intro f
  induction f with
  | zero => intros; omega
  | succ f ih =>
    intro h x0 x1 o_x0 T r_x0 i_x1 hm
    rw [sX12_clear_2]
    obtain ⟨C_2, hC_2⟩ : ∃ C : Int, C = x1.toInt := ⟨_, rfl⟩
    have hk_2 : ∀ {h : Hp} {x0 : Nat} {x1 : Int32}, cw c x0 = w_x0 → TH ρ c h → ρ x0 = 13 → Rg (0) (64) (x1) → C_2 < x1.toInt → Sat (sX12_clear_2 F f h x0 x1) (ZV ρ c) := by
      intro h' x0' x1' o_x0' T' r_x0' i_x1' hl
      exact ih o_x0' T' r_x0' i_x1' (by have := i_x1'.1; have := i_x1'.2; omega)
    have hc_2 : C_2 ≤ x1.toInt := by omega
    refine s_br (fun c_1 => ?_) (fun c_1 => ?_)
    · have _ := c_1
      have i_f_2 : Rg (64) (64) (x1) := rg_le2 c_1 (rg_b rfl : Rg (64) (64) ((64 : Int32))) i_x1
      refine s_hq (th_wI T r_x0 (k := 13) (lo := (0)) (hi := (1)) rfl ((rg_m (rg_b rfl : Rg (0) (0) ((0 : Int32))) (by decide)) : Rg (0) (1) ((0 : Int32))) (by decide) (by decide) (pm_o hO_x0 o_x0 rfl)) (fun h_2 T_3 w_4 => ?_)
      refine s_hq (th_wJ T_3 r_x0 (k := 13) (by decide) (pm_o hO_x0 o_x0 rfl)) (fun h_3 T_5 w_6 => ?_)
      refine s_hq (th_wI T_5 r_x0 (k := 13) (lo := (0)) (hi := (64)) rfl ((rg_m (rg_b rfl : Rg (0) (0) ((0 : Int32))) (by decide)) : Rg (0) (64) ((0 : Int32))) (by decide) (by decide) (pm_o hO_x0 o_x0 rfl)) (fun h_4 T_7 w_8 => ?_)
      have m_9 : Rg (0) (24) ((0 : Int32)) := (rg_m (rg_b rfl : Rg (0) (0) ((0 : Int32))) (by decide))
      exact zX12_clear_38 hF (pmO_s hO_x0 rfl) F o_x0 T_7 r_x0 (rg_m (rg_b rfl : Rg (0) (0) ((0 : Int32))) (by decide)) (by have := m_9.1; have := m_9.2; omega)
    · have _ := c_1
      have i_f_10 : Rg (0) (63) (x1) := rg_lt1 (nle_lt c_1) i_x1 (rg_b rfl : Rg (64) (64) ((64 : Int32)))
      obtain ⟨r_5, e_r_5, q_r_5⟩ := thR T r_x0 (k := 13) (i := 0) (k2 := 62) rfl (by decide)
      refine s_ref e_r_5 ?_
      refine s_gd (by rw [thN T q_r_5 (k := 62) (n := 64) rfl (by decide)]; exact rg_inB (i_f_10 : Rg (0) (63) (x1)) (by decide)) ?_
      refine s_hq (th_wI T q_r_5 (k := 62) (lo := (0)) (hi := (24)) rfl ((rg_m (rg_b rfl : Rg (0) (0) ((0 : Int32))) (by decide)) : Rg (0) (24) ((0 : Int32))) (by decide) (by decide) (pm_o hO_x0 (th_ih T r_x0 (k := 13) rfl e_r_5 o_x0) rfl)) (fun h_7 T_11 w_12 => ?_)
      refine s_q (fun v_8 e_13 => ?_)
      have i_v_8 : Rg (1) (64) (v_8) := by rw [e_13]; exact (rg_add i_f_10 (rg_b rfl : Rg (1) (1) ((1 : Int32))) (by decide) : Rg (1) (64) (x1 + (1 : Int32)))
      have m_14 : (v_8).toInt = x1.toInt + 1 := by rw [e_13]; exact rg_inc i_f_10 (by decide)
      exact hk_2 o_x0 T_11 r_x0 (rg_m i_v_8 (by decide)) (by have := hc_2; omega)
set_option maxRecDepth 20000 in
theorem zX12_clear {ρ : Nat → Nat} {c : Cm} {F : Nat} {w_x0 : Nat} (hF : 700000 ≤ F) (hO_x0 : pmO c w_x0 [(62, 999), (64, 999), (65, 999), (13, 1), (13, 2), (13, 3), (13, 7)]) {h : Hp} {x0 : Nat} (o_x0 : cw c x0 = w_x0) (T : TH ρ c h) (r_x0 : ρ x0 = 13) : Sat (sX12_clear F h x0) (ZV ρ c) := by
  unfold sX12_clear 
  have m_1 : Rg (0) (64) ((0 : Int32)) := (rg_m (rg_b rfl : Rg (0) (0) ((0 : Int32))) (by decide))
  exact zX12_clear_2 hF (pmO_s hO_x0 rfl) F o_x0 T r_x0 (rg_m (rg_b rfl : Rg (0) (0) ((0 : Int32))) (by decide)) (by have := m_1.1; have := m_1.2; omega)
set_option maxRecDepth 20000 in
theorem zX12_copy {ρ : Nat → Nat} {c : Cm} {F : Nat} {w_x0 w_x1 : Nat} (hF : 700000 ≤ F) (hO_x0 : pmO c w_x0 [(62, 999), (63, 999), (64, 999), (65, 999), (13, 1), (13, 2), (13, 3), (13, 7)]) {h : Hp} {x0 : Nat} {x1 : Nat} (o_x0 : cw c x0 = w_x0) (o_x1 : cw c x1 = w_x1) (T : TH ρ c h) (r_x0 : ρ x0 = 13) (r_x1 : ρ x1 = 13) : Sat (sX12_copy h x0 x1) (ZV ρ c) := by
  unfold sX12_copy 
  obtain ⟨r_1, e_r_1, q_r_1⟩ := thR T r_x1 (k := 13) (i := 0) (k2 := 62) rfl (by decide)
  refine s_ref e_r_1 ?_
  obtain ⟨r_2, e_r_2, q_r_2⟩ := thR T r_x0 (k := 13) (i := 0) (k2 := 62) rfl (by decide)
  refine s_ref e_r_2 ?_
  refine s_gd (rg_nneg ((rg_m (rg_b rfl : Rg (0) (0) ((0 : Int32))) (by decide)) : Rg (0) (2147483647) ((0 : Int32))) (by decide)) ?_
  refine s_gd (rg_nneg ((rg_m (rg_b rfl : Rg (0) (0) ((0 : Int32))) (by decide)) : Rg (0) (2147483647) ((0 : Int32))) (by decide)) ?_
  refine s_gd (rg_nneg ((rg_m (rg_b rfl : Rg (64) (64) ((64 : Int32))) (by decide)) : Rg (0) (2147483647) ((64 : Int32))) (by decide)) ?_
  refine s_gd (g_len (rg_b rfl : Rg (0) (0) ((0 : Int32))) (rg_b rfl : Rg (64) (64) ((64 : Int32))) (thN T q_r_1 (k := 62) (n := 64) rfl (by decide)) (by decide)) ?_
  refine s_gd (g_len (rg_b rfl : Rg (0) (0) ((0 : Int32))) (rg_b rfl : Rg (64) (64) ((64 : Int32))) (thN T q_r_2 (k := 62) (n := 64) rfl (by decide)) (by decide)) ?_
  refine s_hq (th_cpI T q_r_1 q_r_2 (k0 := 62) (k := 62) (lo0 := (0)) (hi0 := (24)) (lo := (0)) (hi := (24)) (fun _ => rfl) (fun _ => rfl) (by decide) (by decide) (by decide) (fun _ => (pm_o hO_x0 (th_ih T r_x0 (k := 13) rfl e_r_2 o_x0) rfl))) (fun h_8 T_1 w_2 => ?_)
  refine s_hq (th_wI T_1 r_x0 (k := 13) (lo := (0)) (hi := (1)) rfl ((thI T_1 r_x1 (k := 13) (i := 1) rfl : Rg (0) (1) ((hI h_8 x1 1))) : Rg (0) (1) ((hI h_8 x1 1))) (by decide) (by decide) (pm_o hO_x0 o_x0 rfl)) (fun h_9 T_3 w_4 => ?_)
  refine s_hq (th_wJ T_3 r_x0 (k := 13) (by decide) (pm_o hO_x0 o_x0 rfl)) (fun h_10 T_5 w_6 => ?_)
  refine s_hq (th_wI T_5 r_x0 (k := 13) (lo := (0)) (hi := (64)) rfl ((thI T_5 r_x1 (k := 13) (i := 3) rfl : Rg (0) (64) ((hI h_10 x1 3))) : Rg (0) (64) ((hI h_10 x1 3))) (by decide) (by decide) (pm_o hO_x0 o_x0 rfl)) (fun h_11 T_7 w_8 => ?_)
  obtain ⟨r_12, e_r_12, q_r_12⟩ := thR T_7 r_x1 (k := 13) (i := 4) (k2 := 63) rfl (by decide)
  refine s_ref e_r_12 ?_
  obtain ⟨r_13, e_r_13, q_r_13⟩ := thR T_7 r_x0 (k := 13) (i := 4) (k2 := 63) rfl (by decide)
  refine s_ref e_r_13 ?_
  refine s_gd (rg_nneg ((rg_m (rg_b rfl : Rg (0) (0) ((0 : Int32))) (by decide)) : Rg (0) (2147483647) ((0 : Int32))) (by decide)) ?_
  refine s_gd (rg_nneg ((rg_m (rg_b rfl : Rg (0) (0) ((0 : Int32))) (by decide)) : Rg (0) (2147483647) ((0 : Int32))) (by decide)) ?_
  refine s_gd (rg_nneg ((rg_m ((rg_hs w_8 (thI T_5 r_x1 (k := 13) (i := 3) rfl : Rg (0) (64) ((hI h_10 x1 3)))) : Rg (0) (64) ((hI h_11 x0 3))) (by decide)) : Rg (0) (2147483647) ((hI h_11 x0 3))) (by decide)) ?_
  refine s_gd (g_len (rg_b rfl : Rg (0) (0) ((0 : Int32))) ((rg_hs w_8 (thI T_5 r_x1 (k := 13) (i := 3) rfl : Rg (0) (64) ((hI h_10 x1 3)))) : Rg (0) (64) ((hI h_11 x0 3))) (thN T_7 q_r_12 (k := 63) (n := 64) rfl (by decide)) (by decide)) ?_
  refine s_gd (g_len (rg_b rfl : Rg (0) (0) ((0 : Int32))) ((rg_hs w_8 (thI T_5 r_x1 (k := 13) (i := 3) rfl : Rg (0) (64) ((hI h_10 x1 3)))) : Rg (0) (64) ((hI h_11 x0 3))) (thN T_7 q_r_13 (k := 63) (n := 64) rfl (by decide)) (by decide)) ?_
  refine s_hq (th_cpI T_7 q_r_12 q_r_13 (k0 := 63) (k := 63) (lo0 := (0)) (hi0 := (63)) (lo := (0)) (hi := (63)) (fun _ => rfl) (fun _ => rfl) (by decide) (by decide) (by decide) (fun _ => (pm_o hO_x0 (th_ih T_7 r_x0 (k := 13) rfl e_r_13 o_x0) rfl))) (fun h_19 T_9 w_10 => ?_)
  obtain ⟨r_20, e_r_20, q_r_20⟩ := thR T_9 r_x1 (k := 13) (i := 5) (k2 := 64) rfl (by decide)
  refine s_ref e_r_20 ?_
  obtain ⟨r_21, e_r_21, q_r_21⟩ := thR T_9 r_x0 (k := 13) (i := 5) (k2 := 64) rfl (by decide)
  refine s_ref e_r_21 ?_
  refine s_gd (rg_nneg ((rg_m (rg_b rfl : Rg (0) (0) ((0 : Int32))) (by decide)) : Rg (0) (2147483647) ((0 : Int32))) (by decide)) ?_
  refine s_gd (rg_nneg ((rg_m (rg_b rfl : Rg (0) (0) ((0 : Int32))) (by decide)) : Rg (0) (2147483647) ((0 : Int32))) (by decide)) ?_
  refine s_gd (rg_nneg ((rg_m (rg_b rfl : Rg (24) (24) ((24 : Int32))) (by decide)) : Rg (0) (2147483647) ((24 : Int32))) (by decide)) ?_
  refine s_gd (g_len (rg_b rfl : Rg (0) (0) ((0 : Int32))) (rg_b rfl : Rg (24) (24) ((24 : Int32))) (thN T_9 q_r_20 (k := 64) (n := 24) rfl (by decide)) (by decide)) ?_
  refine s_gd (g_len (rg_b rfl : Rg (0) (0) ((0 : Int32))) (rg_b rfl : Rg (24) (24) ((24 : Int32))) (thN T_9 q_r_21 (k := 64) (n := 24) rfl (by decide)) (by decide)) ?_
  refine s_hq (th_cpI T_9 q_r_20 q_r_21 (k0 := 64) (k := 64) (lo0 := (0)) (hi0 := (16)) (lo := (0)) (hi := (16)) (fun _ => rfl) (fun _ => rfl) (by decide) (by decide) (by decide) (fun _ => (pm_o hO_x0 (th_ih T_9 r_x0 (k := 13) rfl e_r_21 o_x0) rfl))) (fun h_27 T_11 w_12 => ?_)
  obtain ⟨r_28, e_r_28, q_r_28⟩ := thR T_11 r_x0 (k := 13) (i := 6) (k2 := 65) rfl (by decide)
  refine s_ref e_r_28 ?_
  obtain ⟨r_29, e_r_29, q_r_29⟩ := thR T_11 r_x1 (k := 13) (i := 6) (k2 := 65) rfl (by decide)
  refine s_ref e_r_29 ?_
  refine s_gd (by rw [thN T_11 q_r_29 (k := 65) (n := 2) rfl (by decide)]; exact rg_inB ((rg_m (rg_b rfl : Rg (0) (0) ((0 : Int32))) (by decide)) : Rg (0) (1) ((0 : Int32))) (by decide)) ?_
  refine s_gd (by rw [thN T_11 q_r_28 (k := 65) (n := 2) rfl (by decide)]; exact rg_inB ((rg_m (rg_b rfl : Rg (0) (0) ((0 : Int32))) (by decide)) : Rg (0) (1) ((0 : Int32))) (by decide)) ?_
  refine s_hq (th_wI T_11 q_r_28 (k := 65) (lo := (0)) (hi := (9)) rfl ((thI T_11 q_r_29 (k := 65) rfl : Rg (0) (9) ((hI h_27 r_29 (0 : Int32).toNatClampNeg))) : Rg (0) (9) ((hI h_27 r_29 (0 : Int32).toNatClampNeg))) (by decide) (by decide) (pm_o hO_x0 (th_ih T_11 r_x0 (k := 13) rfl e_r_28 o_x0) rfl)) (fun h_32 T_13 w_14 => ?_)
  refine s_ref (hr_w w_14 e_r_28) ?_
  refine s_ref (hr_w w_14 e_r_29) ?_
  refine s_gd (by rw [thN T_13 q_r_29 (k := 65) (n := 2) rfl (by decide)]; exact rg_inB ((rg_m (rg_b rfl : Rg (1) (1) ((1 : Int32))) (by decide)) : Rg (0) (1) ((1 : Int32))) (by decide)) ?_
  refine s_gd (by rw [thN T_13 q_r_28 (k := 65) (n := 2) rfl (by decide)]; exact rg_inB ((rg_m (rg_b rfl : Rg (1) (1) ((1 : Int32))) (by decide)) : Rg (0) (1) ((1 : Int32))) (by decide)) ?_
  refine s_hq (th_wI T_13 q_r_28 (k := 65) (lo := (0)) (hi := (9)) rfl ((thI T_13 q_r_29 (k := 65) rfl : Rg (0) (9) ((hI h_32 r_29 (1 : Int32).toNatClampNeg))) : Rg (0) (9) ((hI h_32 r_29 (1 : Int32).toNatClampNeg))) (by decide) (by decide) (pm_o hO_x0 (th_ih T_11 r_x0 (k := 13) rfl e_r_28 o_x0) rfl)) (fun h_37 T_15 w_16 => ?_)
  refine s_hq (th_wI T_15 r_x0 (k := 13) (lo := (0)) (hi := (999)) rfl ((thI T_15 r_x1 (k := 13) (i := 7) rfl : Rg (0) (999) ((hI h_37 x1 7))) : Rg (0) (999) ((hI h_37 x1 7))) (by decide) (by decide) (pm_o hO_x0 o_x0 rfl)) (fun h_38 T_17 w_18 => ?_)
  exact s_some (T_17)
set_option maxRecDepth 20000 in
theorem zX13_add {ρ : Nat → Nat} {c : Cm} {F : Nat} {w_x0 : Nat} (hF : 700000 ≤ F) (hO_x0 : pmO c w_x0 [(66, 999), (67, 999), (68, 999), (69, 999), (70, 999), (71, 999), (72, 999), (14, 0)]) {h : Hp} {x0 : Nat} {x1 : Int32} {x2 : Int32} {x3 : Int32} {x4 : Int32} {x5 : Int32} {x6 : Int32} {x7 : Int32} (o_x0 : cw c x0 = w_x0) (T : TH ρ c h) (r_x0 : ρ x0 = 14) (i_x1 : Rg (-1) (63) (x1)) (i_x2 : Rg (0) (63) (x2)) (i_x3 : Rg (0) (11) (x3)) (i_x4 : Rg (-1) (11) (x4)) (i_x5 : Rg (-1) (11) (x5)) (i_x6 : Rg (0) (3) (x6)) (i_x7 : Rg (0) (63) (x7)) (pm : ((hI h x0 0).toInt ≤ 2999)) : Sat (sX13_add h x0 x1 x2 x3 x4 x5 x6 x7) (ZQ (ZV ρ c) (fun o => (hI o x0 0).toInt = ((hI h x0 0).toInt) + 1)) := by
  unfold sX13_add 
  obtain ⟨r_1, e_r_1, q_r_1⟩ := thR T r_x0 (k := 14) (i := 1) (k2 := 66) rfl (by decide)
  refine s_ref e_r_1 ?_
  have og_1 : Rg (0) (2999) ((hI h x0 0)) := ⟨(by have hq_ := ((thI T r_x0 (k := 14) (i := 0) rfl : Rg (0) (3000) ((hI h x0 0))) : Rg (0) (3000) ((hI h x0 0))); have := hq_.1; have := hq_.2; clear o_x0; omega), (by have hq_ := ((thI T r_x0 (k := 14) (i := 0) rfl : Rg (0) (3000) ((hI h x0 0))) : Rg (0) (3000) ((hI h x0 0))); have := hq_.1; have := hq_.2; clear o_x0; omega)⟩
  refine s_gd (by rw [thN T q_r_1 (k := 66) (n := 3000) rfl (by decide)]; exact rg_inB (og_1 : Rg (0) (2999) ((hI h x0 0))) (by decide)) ?_
  refine s_hq (th_wI T q_r_1 (k := 66) (lo := (-1)) (hi := (63)) rfl (i_x1 : Rg (-1) (63) (x1)) (by decide) (by decide) (pm_o hO_x0 (th_ih T r_x0 (k := 14) rfl e_r_1 o_x0) rfl)) (fun h_3 T_2 w_3 => ?_)
  obtain ⟨r_4, e_r_4, q_r_4⟩ := thR T_2 r_x0 (k := 14) (i := 2) (k2 := 67) rfl (by decide)
  refine s_ref e_r_4 ?_
  refine s_gd (by rw [thN T_2 q_r_4 (k := 67) (n := 3000) rfl (by decide)]; exact rg_inB (((rg_hw w_3 (ne_r r_x0 q_r_1 (by decide)) og_1) : Rg (0) (2999) ((hI h_3 x0 0))) : Rg (0) (2999) ((hI h_3 x0 0))) (by decide)) ?_
  refine s_hq (th_wI T_2 q_r_4 (k := 67) (lo := (0)) (hi := (63)) rfl (i_x2 : Rg (0) (63) (x2)) (by decide) (by decide) (pm_o hO_x0 (th_ih T_2 r_x0 (k := 14) rfl e_r_4 o_x0) rfl)) (fun h_6 T_4 w_5 => ?_)
  obtain ⟨r_7, e_r_7, q_r_7⟩ := thR T_4 r_x0 (k := 14) (i := 3) (k2 := 68) rfl (by decide)
  refine s_ref e_r_7 ?_
  refine s_gd (by rw [thN T_4 q_r_7 (k := 68) (n := 3000) rfl (by decide)]; exact rg_inB (((rg_hw w_5 (ne_r r_x0 q_r_4 (by decide)) (rg_hw w_3 (ne_r r_x0 q_r_1 (by decide)) og_1)) : Rg (0) (2999) ((hI h_6 x0 0))) : Rg (0) (2999) ((hI h_6 x0 0))) (by decide)) ?_
  refine s_hq (th_wI T_4 q_r_7 (k := 68) (lo := (0)) (hi := (11)) rfl (i_x3 : Rg (0) (11) (x3)) (by decide) (by decide) (pm_o hO_x0 (th_ih T_4 r_x0 (k := 14) rfl e_r_7 o_x0) rfl)) (fun h_9 T_6 w_7 => ?_)
  obtain ⟨r_10, e_r_10, q_r_10⟩ := thR T_6 r_x0 (k := 14) (i := 4) (k2 := 69) rfl (by decide)
  refine s_ref e_r_10 ?_
  refine s_gd (by rw [thN T_6 q_r_10 (k := 69) (n := 3000) rfl (by decide)]; exact rg_inB (((rg_hw w_7 (ne_r r_x0 q_r_7 (by decide)) (rg_hw w_5 (ne_r r_x0 q_r_4 (by decide)) (rg_hw w_3 (ne_r r_x0 q_r_1 (by decide)) og_1))) : Rg (0) (2999) ((hI h_9 x0 0))) : Rg (0) (2999) ((hI h_9 x0 0))) (by decide)) ?_
  refine s_hq (th_wI T_6 q_r_10 (k := 69) (lo := (-1)) (hi := (11)) rfl (i_x4 : Rg (-1) (11) (x4)) (by decide) (by decide) (pm_o hO_x0 (th_ih T_6 r_x0 (k := 14) rfl e_r_10 o_x0) rfl)) (fun h_12 T_8 w_9 => ?_)
  obtain ⟨r_13, e_r_13, q_r_13⟩ := thR T_8 r_x0 (k := 14) (i := 5) (k2 := 70) rfl (by decide)
  refine s_ref e_r_13 ?_
  refine s_gd (by rw [thN T_8 q_r_13 (k := 70) (n := 3000) rfl (by decide)]; exact rg_inB (((rg_hw w_9 (ne_r r_x0 q_r_10 (by decide)) (rg_hw w_7 (ne_r r_x0 q_r_7 (by decide)) (rg_hw w_5 (ne_r r_x0 q_r_4 (by decide)) (rg_hw w_3 (ne_r r_x0 q_r_1 (by decide)) og_1)))) : Rg (0) (2999) ((hI h_12 x0 0))) : Rg (0) (2999) ((hI h_12 x0 0))) (by decide)) ?_
  refine s_hq (th_wI T_8 q_r_13 (k := 70) (lo := (-1)) (hi := (11)) rfl (i_x5 : Rg (-1) (11) (x5)) (by decide) (by decide) (pm_o hO_x0 (th_ih T_8 r_x0 (k := 14) rfl e_r_13 o_x0) rfl)) (fun h_15 T_10 w_11 => ?_)
  obtain ⟨r_16, e_r_16, q_r_16⟩ := thR T_10 r_x0 (k := 14) (i := 6) (k2 := 71) rfl (by decide)
  refine s_ref e_r_16 ?_
  refine s_gd (by rw [thN T_10 q_r_16 (k := 71) (n := 3000) rfl (by decide)]; exact rg_inB (((rg_hw w_11 (ne_r r_x0 q_r_13 (by decide)) (rg_hw w_9 (ne_r r_x0 q_r_10 (by decide)) (rg_hw w_7 (ne_r r_x0 q_r_7 (by decide)) (rg_hw w_5 (ne_r r_x0 q_r_4 (by decide)) (rg_hw w_3 (ne_r r_x0 q_r_1 (by decide)) og_1))))) : Rg (0) (2999) ((hI h_15 x0 0))) : Rg (0) (2999) ((hI h_15 x0 0))) (by decide)) ?_
  refine s_hq (th_wI T_10 q_r_16 (k := 71) (lo := (0)) (hi := (3)) rfl (i_x6 : Rg (0) (3) (x6)) (by decide) (by decide) (pm_o hO_x0 (th_ih T_10 r_x0 (k := 14) rfl e_r_16 o_x0) rfl)) (fun h_18 T_12 w_13 => ?_)
  obtain ⟨r_19, e_r_19, q_r_19⟩ := thR T_12 r_x0 (k := 14) (i := 7) (k2 := 72) rfl (by decide)
  refine s_ref e_r_19 ?_
  refine s_gd (by rw [thN T_12 q_r_19 (k := 72) (n := 3000) rfl (by decide)]; exact rg_inB (((rg_hw w_13 (ne_r r_x0 q_r_16 (by decide)) (rg_hw w_11 (ne_r r_x0 q_r_13 (by decide)) (rg_hw w_9 (ne_r r_x0 q_r_10 (by decide)) (rg_hw w_7 (ne_r r_x0 q_r_7 (by decide)) (rg_hw w_5 (ne_r r_x0 q_r_4 (by decide)) (rg_hw w_3 (ne_r r_x0 q_r_1 (by decide)) og_1)))))) : Rg (0) (2999) ((hI h_18 x0 0))) : Rg (0) (2999) ((hI h_18 x0 0))) (by decide)) ?_
  refine s_hq (th_wI T_12 q_r_19 (k := 72) (lo := (0)) (hi := (63)) rfl (i_x7 : Rg (0) (63) (x7)) (by decide) (by decide) (pm_o hO_x0 (th_ih T_12 r_x0 (k := 14) rfl e_r_19 o_x0) rfl)) (fun h_21 T_14 w_15 => ?_)
  refine s_hq (th_wI T_14 r_x0 (k := 14) (lo := (0)) (hi := (3000)) rfl ((rg_m (rg_add ((rg_hw w_15 (ne_r r_x0 q_r_19 (by decide)) (rg_hw w_13 (ne_r r_x0 q_r_16 (by decide)) (rg_hw w_11 (ne_r r_x0 q_r_13 (by decide)) (rg_hw w_9 (ne_r r_x0 q_r_10 (by decide)) (rg_hw w_7 (ne_r r_x0 q_r_7 (by decide)) (rg_hw w_5 (ne_r r_x0 q_r_4 (by decide)) (rg_hw w_3 (ne_r r_x0 q_r_1 (by decide)) og_1))))))) : Rg (0) (2999) ((hI h_21 x0 0))) (rg_b rfl : Rg (1) (1) ((1 : Int32))) (by decide) : Rg (1) (3000) (((hI h_21 x0 0) + (1 : Int32)))) (by decide)) : Rg (0) (3000) (((hI h_21 x0 0) + (1 : Int32)))) (by decide) (by decide) (pm_o hO_x0 o_x0 rfl)) (fun h_22 T_16 w_17 => ?_)
  exact s_some ⟨(T_16), (show (hI h_22 x0 0).toInt = ((hI h x0 0).toInt) + 1 from (by have hq_ := (((rg_hs w_17 (rg_add ((rg_hw w_15 (ne_r r_x0 q_r_19 (by decide)) (rg_hw w_13 (ne_r r_x0 q_r_16 (by decide)) (rg_hw w_11 (ne_r r_x0 q_r_13 (by decide)) (rg_hw w_9 (ne_r r_x0 q_r_10 (by decide)) (rg_hw w_7 (ne_r r_x0 q_r_7 (by decide)) (rg_hw w_5 (ne_r r_x0 q_r_4 (by decide)) (rg_hw w_3 (ne_r r_x0 q_r_1 (by decide)) og_1))))))) : Rg (0) (2999) ((hI h_21 x0 0))) (rg_b rfl : Rg (1) (1) ((1 : Int32))) (by decide) : Rg (1) (3000) (((hI h_21 x0 0) + (1 : Int32))))) : Rg (1) (3000) ((hI h_22 x0 0))) : Rg (1) (3000) ((hI h_22 x0 0))); have := hq_.1; have := hq_.2; have : (hI h_22 x0 0).toInt = (((hI h_21 x0 0) + (1 : Int32)) : Int32).toInt := congrArg Int32.toInt (he_s w_17); have : (((hI h_21 x0 0) + (1 : Int32)) : Int32).toInt = ((hI h_21 x0 0) : Int32).toInt + ((1 : Int32) : Int32).toInt := ti_add (((rg_hw w_15 (ne_r r_x0 q_r_19 (by decide)) (rg_hw w_13 (ne_r r_x0 q_r_16 (by decide)) (rg_hw w_11 (ne_r r_x0 q_r_13 (by decide)) (rg_hw w_9 (ne_r r_x0 q_r_10 (by decide)) (rg_hw w_7 (ne_r r_x0 q_r_7 (by decide)) (rg_hw w_5 (ne_r r_x0 q_r_4 (by decide)) (rg_hw w_3 (ne_r r_x0 q_r_1 (by decide)) og_1))))))) : Rg (0) (2999) ((hI h_21 x0 0))) : Rg (0) (2999) ((hI h_21 x0 0))) ((rg_b rfl : Rg (1) (1) ((1 : Int32))) : Rg (1) (1) ((1 : Int32))) (by decide); have hq_ := (((rg_hw w_15 (ne_r r_x0 q_r_19 (by decide)) (rg_hw w_13 (ne_r r_x0 q_r_16 (by decide)) (rg_hw w_11 (ne_r r_x0 q_r_13 (by decide)) (rg_hw w_9 (ne_r r_x0 q_r_10 (by decide)) (rg_hw w_7 (ne_r r_x0 q_r_7 (by decide)) (rg_hw w_5 (ne_r r_x0 q_r_4 (by decide)) (rg_hw w_3 (ne_r r_x0 q_r_1 (by decide)) og_1))))))) : Rg (0) (2999) ((hI h_21 x0 0))) : Rg (0) (2999) ((hI h_21 x0 0))); have := hq_.1; have := hq_.2; have : (hI h_21 x0 0).toInt = (hI h_18 x0 0).toInt := congrArg Int32.toInt (he_w w_15 (ne_r r_x0 q_r_19 (by decide))); have : (hI h_18 x0 0).toInt = (hI h_15 x0 0).toInt := congrArg Int32.toInt (he_w w_13 (ne_r r_x0 q_r_16 (by decide))); have : (hI h_15 x0 0).toInt = (hI h_12 x0 0).toInt := congrArg Int32.toInt (he_w w_11 (ne_r r_x0 q_r_13 (by decide))); have : (hI h_12 x0 0).toInt = (hI h_9 x0 0).toInt := congrArg Int32.toInt (he_w w_9 (ne_r r_x0 q_r_10 (by decide))); have : (hI h_9 x0 0).toInt = (hI h_6 x0 0).toInt := congrArg Int32.toInt (he_w w_7 (ne_r r_x0 q_r_7 (by decide))); have : (hI h_6 x0 0).toInt = (hI h_3 x0 0).toInt := congrArg Int32.toInt (he_w w_5 (ne_r r_x0 q_r_4 (by decide))); have : (hI h_3 x0 0).toInt = (hI h x0 0).toInt := congrArg Int32.toInt (he_w w_3 (ne_r r_x0 q_r_1 (by decide))); have : ((1 : Int32)).toInt = 1 := rfl; have := (og_1 : Rg (0) (2999) ((hI h x0 0))).1; have := (og_1 : Rg (0) (2999) ((hI h x0 0))).2; clear o_x0; omega))⟩
set_option maxRecDepth 20000 in
theorem zX13_set {ρ : Nat → Nat} {c : Cm} {F : Nat} {w_x0 w_x2 : Nat} (hF : 700000 ≤ F) (hO_x0 : pmO c w_x0 [(66, 999), (67, 999), (68, 999), (69, 999), (70, 999), (71, 999), (72, 999)]) {h : Hp} {x0 : Nat} {x1 : Int32} {x2 : Nat} {x3 : Int32} (o_x0 : cw c x0 = w_x0) (o_x2 : cw c x2 = w_x2) (T : TH ρ c h) (r_x0 : ρ x0 = 14) (i_x1 : Rg (0) (2999) (x1)) (r_x2 : ρ x2 = 14) (i_x3 : Rg (0) (2999) (x3)) : Sat (sX13_set h x0 x1 x2 x3) (ZV ρ c) := by
  unfold sX13_set 
  obtain ⟨r_1, e_r_1, q_r_1⟩ := thR T r_x0 (k := 14) (i := 1) (k2 := 66) rfl (by decide)
  refine s_ref e_r_1 ?_
  obtain ⟨r_2, e_r_2, q_r_2⟩ := thR T r_x2 (k := 14) (i := 1) (k2 := 66) rfl (by decide)
  refine s_ref e_r_2 ?_
  refine s_gd (by rw [thN T q_r_2 (k := 66) (n := 3000) rfl (by decide)]; exact rg_inB (i_x3 : Rg (0) (2999) (x3)) (by decide)) ?_
  refine s_gd (by rw [thN T q_r_1 (k := 66) (n := 3000) rfl (by decide)]; exact rg_inB (i_x1 : Rg (0) (2999) (x1)) (by decide)) ?_
  refine s_hq (th_wI T q_r_1 (k := 66) (lo := (-1)) (hi := (63)) rfl ((thI T q_r_2 (k := 66) rfl : Rg (-1) (63) ((hI h r_2 x3.toNatClampNeg))) : Rg (-1) (63) ((hI h r_2 x3.toNatClampNeg))) (by decide) (by decide) (pm_o hO_x0 (th_ih T r_x0 (k := 14) rfl e_r_1 o_x0) rfl)) (fun h_5 T_1 w_2 => ?_)
  obtain ⟨r_6, e_r_6, q_r_6⟩ := thR T_1 r_x0 (k := 14) (i := 2) (k2 := 67) rfl (by decide)
  refine s_ref e_r_6 ?_
  obtain ⟨r_7, e_r_7, q_r_7⟩ := thR T_1 r_x2 (k := 14) (i := 2) (k2 := 67) rfl (by decide)
  refine s_ref e_r_7 ?_
  refine s_gd (by rw [thN T_1 q_r_7 (k := 67) (n := 3000) rfl (by decide)]; exact rg_inB (i_x3 : Rg (0) (2999) (x3)) (by decide)) ?_
  refine s_gd (by rw [thN T_1 q_r_6 (k := 67) (n := 3000) rfl (by decide)]; exact rg_inB (i_x1 : Rg (0) (2999) (x1)) (by decide)) ?_
  refine s_hq (th_wI T_1 q_r_6 (k := 67) (lo := (0)) (hi := (63)) rfl ((thI T_1 q_r_7 (k := 67) rfl : Rg (0) (63) ((hI h_5 r_7 x3.toNatClampNeg))) : Rg (0) (63) ((hI h_5 r_7 x3.toNatClampNeg))) (by decide) (by decide) (pm_o hO_x0 (th_ih T_1 r_x0 (k := 14) rfl e_r_6 o_x0) rfl)) (fun h_10 T_3 w_4 => ?_)
  obtain ⟨r_11, e_r_11, q_r_11⟩ := thR T_3 r_x0 (k := 14) (i := 3) (k2 := 68) rfl (by decide)
  refine s_ref e_r_11 ?_
  obtain ⟨r_12, e_r_12, q_r_12⟩ := thR T_3 r_x2 (k := 14) (i := 3) (k2 := 68) rfl (by decide)
  refine s_ref e_r_12 ?_
  refine s_gd (by rw [thN T_3 q_r_12 (k := 68) (n := 3000) rfl (by decide)]; exact rg_inB (i_x3 : Rg (0) (2999) (x3)) (by decide)) ?_
  refine s_gd (by rw [thN T_3 q_r_11 (k := 68) (n := 3000) rfl (by decide)]; exact rg_inB (i_x1 : Rg (0) (2999) (x1)) (by decide)) ?_
  refine s_hq (th_wI T_3 q_r_11 (k := 68) (lo := (0)) (hi := (11)) rfl ((thI T_3 q_r_12 (k := 68) rfl : Rg (0) (11) ((hI h_10 r_12 x3.toNatClampNeg))) : Rg (0) (11) ((hI h_10 r_12 x3.toNatClampNeg))) (by decide) (by decide) (pm_o hO_x0 (th_ih T_3 r_x0 (k := 14) rfl e_r_11 o_x0) rfl)) (fun h_15 T_5 w_6 => ?_)
  obtain ⟨r_16, e_r_16, q_r_16⟩ := thR T_5 r_x0 (k := 14) (i := 4) (k2 := 69) rfl (by decide)
  refine s_ref e_r_16 ?_
  obtain ⟨r_17, e_r_17, q_r_17⟩ := thR T_5 r_x2 (k := 14) (i := 4) (k2 := 69) rfl (by decide)
  refine s_ref e_r_17 ?_
  refine s_gd (by rw [thN T_5 q_r_17 (k := 69) (n := 3000) rfl (by decide)]; exact rg_inB (i_x3 : Rg (0) (2999) (x3)) (by decide)) ?_
  refine s_gd (by rw [thN T_5 q_r_16 (k := 69) (n := 3000) rfl (by decide)]; exact rg_inB (i_x1 : Rg (0) (2999) (x1)) (by decide)) ?_
  refine s_hq (th_wI T_5 q_r_16 (k := 69) (lo := (-1)) (hi := (11)) rfl ((thI T_5 q_r_17 (k := 69) rfl : Rg (-1) (11) ((hI h_15 r_17 x3.toNatClampNeg))) : Rg (-1) (11) ((hI h_15 r_17 x3.toNatClampNeg))) (by decide) (by decide) (pm_o hO_x0 (th_ih T_5 r_x0 (k := 14) rfl e_r_16 o_x0) rfl)) (fun h_20 T_7 w_8 => ?_)
  obtain ⟨r_21, e_r_21, q_r_21⟩ := thR T_7 r_x0 (k := 14) (i := 5) (k2 := 70) rfl (by decide)
  refine s_ref e_r_21 ?_
  obtain ⟨r_22, e_r_22, q_r_22⟩ := thR T_7 r_x2 (k := 14) (i := 5) (k2 := 70) rfl (by decide)
  refine s_ref e_r_22 ?_
  refine s_gd (by rw [thN T_7 q_r_22 (k := 70) (n := 3000) rfl (by decide)]; exact rg_inB (i_x3 : Rg (0) (2999) (x3)) (by decide)) ?_
  refine s_gd (by rw [thN T_7 q_r_21 (k := 70) (n := 3000) rfl (by decide)]; exact rg_inB (i_x1 : Rg (0) (2999) (x1)) (by decide)) ?_
  refine s_hq (th_wI T_7 q_r_21 (k := 70) (lo := (-1)) (hi := (11)) rfl ((thI T_7 q_r_22 (k := 70) rfl : Rg (-1) (11) ((hI h_20 r_22 x3.toNatClampNeg))) : Rg (-1) (11) ((hI h_20 r_22 x3.toNatClampNeg))) (by decide) (by decide) (pm_o hO_x0 (th_ih T_7 r_x0 (k := 14) rfl e_r_21 o_x0) rfl)) (fun h_25 T_9 w_10 => ?_)
  obtain ⟨r_26, e_r_26, q_r_26⟩ := thR T_9 r_x0 (k := 14) (i := 6) (k2 := 71) rfl (by decide)
  refine s_ref e_r_26 ?_
  obtain ⟨r_27, e_r_27, q_r_27⟩ := thR T_9 r_x2 (k := 14) (i := 6) (k2 := 71) rfl (by decide)
  refine s_ref e_r_27 ?_
  refine s_gd (by rw [thN T_9 q_r_27 (k := 71) (n := 3000) rfl (by decide)]; exact rg_inB (i_x3 : Rg (0) (2999) (x3)) (by decide)) ?_
  refine s_gd (by rw [thN T_9 q_r_26 (k := 71) (n := 3000) rfl (by decide)]; exact rg_inB (i_x1 : Rg (0) (2999) (x1)) (by decide)) ?_
  refine s_hq (th_wI T_9 q_r_26 (k := 71) (lo := (0)) (hi := (3)) rfl ((thI T_9 q_r_27 (k := 71) rfl : Rg (0) (3) ((hI h_25 r_27 x3.toNatClampNeg))) : Rg (0) (3) ((hI h_25 r_27 x3.toNatClampNeg))) (by decide) (by decide) (pm_o hO_x0 (th_ih T_9 r_x0 (k := 14) rfl e_r_26 o_x0) rfl)) (fun h_30 T_11 w_12 => ?_)
  obtain ⟨r_31, e_r_31, q_r_31⟩ := thR T_11 r_x0 (k := 14) (i := 7) (k2 := 72) rfl (by decide)
  refine s_ref e_r_31 ?_
  obtain ⟨r_32, e_r_32, q_r_32⟩ := thR T_11 r_x2 (k := 14) (i := 7) (k2 := 72) rfl (by decide)
  refine s_ref e_r_32 ?_
  refine s_gd (by rw [thN T_11 q_r_32 (k := 72) (n := 3000) rfl (by decide)]; exact rg_inB (i_x3 : Rg (0) (2999) (x3)) (by decide)) ?_
  refine s_gd (by rw [thN T_11 q_r_31 (k := 72) (n := 3000) rfl (by decide)]; exact rg_inB (i_x1 : Rg (0) (2999) (x1)) (by decide)) ?_
  refine s_hq (th_wI T_11 q_r_31 (k := 72) (lo := (0)) (hi := (63)) rfl ((thI T_11 q_r_32 (k := 72) rfl : Rg (0) (63) ((hI h_30 r_32 x3.toNatClampNeg))) : Rg (0) (63) ((hI h_30 r_32 x3.toNatClampNeg))) (by decide) (by decide) (pm_o hO_x0 (th_ih T_11 r_x0 (k := 14) rfl e_r_31 o_x0) rfl)) (fun h_35 T_13 w_14 => ?_)
  exact s_some (T_13)
set_option maxRecDepth 20000 in
theorem zX14_find_2 {ρ : Nat → Nat} {c : Cm} {h0 : Hp} {F : Nat} (hF : 700000 ≤ F) : ∀ (f : Nat) {h : Hp} {x0 : Nat} {x1 : Int32} {x2 : Int32}, h = h0 → TH ρ c h → ρ x0 = 15 → Rg (-128) (127) (x1) → Rg (0) (12) (x2) → (12 - x2.toInt).toNat < f → Sat (sX14_find_2 F f h x0 x1 x2) (ZI0 h0 (-1) (11)) := by
  intro f
  induction f with
  | zero => intros; omega
  | succ f ih =>
    intro h x0 x1 x2 E T r_x0 i_x1 i_x2 hm
    rw [sX14_find_2]
    obtain ⟨C_2, hC_2⟩ : ∃ C : Int, C = x2.toInt := ⟨_, rfl⟩
    have hk_2 : ∀ {h : Hp} {x0 : Nat} {x1 : Int32} {x2 : Int32}, h = h0 → TH ρ c h → ρ x0 = 15 → Rg (-128) (127) (x1) → Rg (0) (12) (x2) → C_2 < x2.toInt → Sat (sX14_find_2 F f h x0 x1 x2) (ZI0 h0 (-1) (11)) := by
      intro h' x0' x1' x2' E' T' r_x0' i_x1' i_x2' hl
      exact ih E' T' r_x0' i_x1' i_x2' (by have := i_x2'.1; have := i_x2'.2; omega)
    have hc_2 : C_2 ≤ x2.toInt := by omega
    refine s_br (fun c_1 => ?_) (fun c_1 => ?_)
    · have _ := c_1
      exact s_some ⟨E, (rg_m (rg_b rfl : Rg (-1) (-1) ((- 1 : Int32))) (by decide))⟩
    · have _ := c_1
      have i_f_2 : Rg (0) (11) (x2) := rg_lt1 (nle_lt c_1) i_x2 (thI T r_x0 (k := 15) (i := 2) rfl : Rg (0) (12) ((hI h x0 2)))
      have i_f_3 : Rg (1) (12) ((hI h x0 2)) := rg_lt2 (nle_lt c_1) i_x2 (thI T r_x0 (k := 15) (i := 2) rfl : Rg (0) (12) ((hI h x0 2)))
      obtain ⟨r_2, e_r_2, q_r_2⟩ := thR T r_x0 (k := 15) (i := 3) (k2 := 73) rfl (by decide)
      refine s_ref e_r_2 ?_
      refine s_gd (by rw [thN T q_r_2 (k := 73) (n := 12) rfl (by decide)]; exact rg_inB (i_f_2 : Rg (0) (11) (x2)) (by decide)) ?_
      refine s_br (fun c_4 => ?_) (fun c_4 => ?_)
      · have _ := c_4
        have i_f_5 : Rg (0) (122) (x1) := rg_eq c_4.symm (thI T q_r_2 (k := 73) rfl : Rg (0) (122) ((hI h r_2 x2.toNatClampNeg)))
        exact s_some ⟨E, (rg_m i_f_2 (by decide))⟩
      · have _ := c_4
        refine s_q (fun v_5 e_6 => ?_)
        have i_v_5 : Rg (1) (12) (v_5) := by rw [e_6]; exact (rg_add i_f_2 (rg_b rfl : Rg (1) (1) ((1 : Int32))) (by decide) : Rg (1) (12) (x2 + (1 : Int32)))
        have m_7 : (v_5).toInt = x2.toInt + 1 := by rw [e_6]; exact rg_inc i_f_2 (by decide)
        exact hk_2 E T r_x0 i_x1 (rg_m i_v_5 (by decide)) (by have := hc_2; omega)
set_option maxRecDepth 20000 in
theorem zX14_find {ρ : Nat → Nat} {c : Cm} {F : Nat} (hF : 700000 ≤ F) {h : Hp} {x0 : Nat} {x1 : Int32} (T : TH ρ c h) (r_x0 : ρ x0 = 15) (i_x1 : Rg (-128) (127) (x1)) : Sat (sX14_find F h x0 x1) (ZI0 h (-1) (11)) := by
  unfold sX14_find 
  have m_1 : Rg (0) (12) ((0 : Int32)) := (rg_m (rg_b rfl : Rg (0) (0) ((0 : Int32))) (by decide))
  exact zX14_find_2 hF F rfl T r_x0 i_x1 (rg_m (rg_b rfl : Rg (0) (0) ((0 : Int32))) (by decide)) (by have := m_1.1; have := m_1.2; omega)
set_option maxRecDepth 20000 in
theorem zX14_isBecome_15 {ρ : Nat → Nat} {c : Cm} {h0 : Hp} {F : Nat} (hF : 700000 ≤ F) {k_4 : Hp → Nat → Int32 → Int32 → Int32 → Option (Int32 × Hp)} {C_4 : Int} (hk_4 : ∀ {h : Hp} {x0 : Nat} {x1 : Int32} {x2 : Int32} {x3 : Int32}, h = h0 → TH ρ c h → ρ x0 = 15 → Rg (0) (11) (x1) → Rg (0) (1) (x2) → Rg (0) (12) (x3) → C_4 < x3.toInt → Sat (k_4 h x0 x1 x2 x3) (ZI0 h0 (0) (1))) : ∀ (f : Nat) {h : Hp} {x0 : Nat} {x1 : Int32} {x2 : Int32} {x3 : Int32} {x4 : Int32}, h = h0 → TH ρ c h → ρ x0 = 15 → Rg (0) (11) (x1) → Rg (0) (1) (x2) → Rg (0) (11) (x3) → Rg (0) (6) (x4) → C_4 ≤ x3.toInt → (6 - x4.toInt).toNat < f → Sat (sX14_isBecome_15 F k_4 f h x0 x1 x2 x3 x4) (ZI0 h0 (0) (1)) := by
  intro f
  induction f with
  | zero => intros; omega
  | succ f ih =>
    intro h x0 x1 x2 x3 x4 E T r_x0 i_x1 i_x2 i_x3 i_x4 hc_4 hm
    rw [sX14_isBecome_15]
    unfold sX14_isBecome_48
    obtain ⟨C_15, hC_15⟩ : ∃ C : Int, C = x4.toInt := ⟨_, rfl⟩
    have hk_15 : ∀ {h : Hp} {x0 : Nat} {x1 : Int32} {x2 : Int32} {x3 : Int32} {x4 : Int32}, h = h0 → TH ρ c h → ρ x0 = 15 → Rg (0) (11) (x1) → Rg (0) (1) (x2) → Rg (0) (11) (x3) → Rg (0) (6) (x4) → C_4 ≤ x3.toInt → C_15 < x4.toInt → Sat (sX14_isBecome_15 F k_4 f h x0 x1 x2 x3 x4) (ZI0 h0 (0) (1)) := by
      intro h' x0' x1' x2' x3' x4' E' T' r_x0' i_x1' i_x2' i_x3' i_x4' hc_4' hl
      exact ih E' T' r_x0' i_x1' i_x2' i_x3' i_x4' hc_4' (by have := i_x4'.1; have := i_x4'.2; omega)
    have hc_15 : C_15 ≤ x4.toInt := by omega
    obtain ⟨r_1, e_r_1, q_r_1⟩ := thR T r_x0 (k := 15) (i := 14) (k2 := 81) rfl (by decide)
    refine s_ref e_r_1 ?_
    refine s_gd (by rw [thN T q_r_1 (k := 81) (n := 12) rfl (by decide)]; exact rg_inB (i_x3 : Rg (0) (11) (x3)) (by decide)) ?_
    refine s_br (fun c_1 => ?_) (fun c_1 => ?_)
    · have _ := c_1
      refine s_q (fun v_4 e_2 => ?_)
      have i_v_4 : Rg (1) (12) (v_4) := by rw [e_2]; exact (rg_add i_x3 (rg_b rfl : Rg (1) (1) ((1 : Int32))) (by decide) : Rg (1) (12) (x3 + (1 : Int32)))
      have m_3 : (v_4).toInt = x3.toInt + 1 := by rw [e_2]; exact rg_inc i_x3 (by decide)
      exact hk_4 E T r_x0 i_x1 i_x2 (rg_m i_v_4 (by decide)) (by have := hc_4; omega)
    · have _ := c_1
      have i_f_4 : Rg (0) (5) (x4) := rg_lt1 (nle_lt c_1) i_x4 (thI T q_r_1 (k := 81) rfl : Rg (0) (6) ((hI h r_1 x3.toNatClampNeg)))
      have i_f_5 : Rg (1) (6) ((hI h r_1 x3.toNatClampNeg)) := rg_lt2 (nle_lt c_1) i_x4 (thI T q_r_1 (k := 81) rfl : Rg (0) (6) ((hI h r_1 x3.toNatClampNeg)))
      obtain ⟨r_5, e_r_5, q_r_5⟩ := thR T r_x0 (k := 15) (i := 13) (k2 := 80) rfl (by decide)
      refine s_ref e_r_5 ?_
      refine s_gd (by rw [thN T q_r_5 (k := 80) (n := 72) rfl (by decide)]; exact rg_inB ((rg_add (rg_mulc' (rg_b rfl : Rg (6) (6) ((6 : Int32))) i_x3 (by decide) : Rg (0) (66) (((6 : Int32) * x3))) i_f_4 (by decide) : Rg (0) (71) ((((6 : Int32) * x3) + x4))) : Rg (0) (71) ((((6 : Int32) * x3) + x4))) (by decide)) ?_
      refine s_br (fun c_6 => ?_) (fun c_6 => ?_)
      · have _ := c_6
        refine s_q (fun v_1q1 e_7 => ?_)
        have i_v_1q1 : Rg (0) (1) (v_1q1) := by rw [e_7]; exact (rg_or (n := 1) (rg_m i_x2 (by decide) : Rg (0) (1) (x2)) (rg_m (rg_b rfl : Rg (1) (1) ((1 : Int32))) (by decide) : Rg (0) (1) ((1 : Int32))) (by decide) : Rg (0) (1) (x2 ||| (1 : Int32)))
        refine s_q (fun v_2q1 e_8 => ?_)
        have i_v_2q1 : Rg (1) (6) (v_2q1) := by rw [e_8]; exact (rg_add i_f_4 (rg_b rfl : Rg (1) (1) ((1 : Int32))) (by decide) : Rg (1) (6) (x4 + (1 : Int32)))
        have m_9 : (v_2q1).toInt = x4.toInt + 1 := by rw [e_8]; exact rg_inc i_f_4 (by decide)
        exact hk_15 E T r_x0 i_x1 i_v_1q1 i_x3 (rg_m i_v_2q1 (by decide)) hc_4 (by have := hc_15; omega)
      · have _ := c_6
        refine s_q (fun v_1q2 e_10 => ?_)
        have i_v_1q2 : Rg (0) (1) (v_1q2) := by rw [e_10]; exact (rg_or (n := 1) (rg_m i_x2 (by decide) : Rg (0) (1) (x2)) (rg_m (rg_b rfl : Rg (0) (0) ((0 : Int32))) (by decide) : Rg (0) (0) ((0 : Int32))) (by decide) : Rg (0) (1) (x2 ||| (0 : Int32)))
        refine s_q (fun v_2q2 e_11 => ?_)
        have i_v_2q2 : Rg (1) (6) (v_2q2) := by rw [e_11]; exact (rg_add i_f_4 (rg_b rfl : Rg (1) (1) ((1 : Int32))) (by decide) : Rg (1) (6) (x4 + (1 : Int32)))
        have m_12 : (v_2q2).toInt = x4.toInt + 1 := by rw [e_11]; exact rg_inc i_f_4 (by decide)
        exact hk_15 E T r_x0 i_x1 i_v_1q2 i_x3 (rg_m i_v_2q2 (by decide)) hc_4 (by have := hc_15; omega)
set_option maxRecDepth 20000 in
theorem zX14_isBecome_4 {ρ : Nat → Nat} {c : Cm} {h0 : Hp} {F : Nat} (hF : 700000 ≤ F) : ∀ (f : Nat) {h : Hp} {x0 : Nat} {x1 : Int32} {x2 : Int32} {x3 : Int32}, h = h0 → TH ρ c h → ρ x0 = 15 → Rg (0) (11) (x1) → Rg (0) (1) (x2) → Rg (0) (12) (x3) → (12 - x3.toInt).toNat < f → Sat (sX14_isBecome_4 F f h x0 x1 x2 x3) (ZI0 h0 (0) (1)) := by
  intro f
  induction f with
  | zero => intros; omega
  | succ f ih =>
    intro h x0 x1 x2 x3 E T r_x0 i_x1 i_x2 i_x3 hm
    rw [sX14_isBecome_4]
    obtain ⟨C_4, hC_4⟩ : ∃ C : Int, C = x3.toInt := ⟨_, rfl⟩
    have hk_4 : ∀ {h : Hp} {x0 : Nat} {x1 : Int32} {x2 : Int32} {x3 : Int32}, h = h0 → TH ρ c h → ρ x0 = 15 → Rg (0) (11) (x1) → Rg (0) (1) (x2) → Rg (0) (12) (x3) → C_4 < x3.toInt → Sat (sX14_isBecome_4 F f h x0 x1 x2 x3) (ZI0 h0 (0) (1)) := by
      intro h' x0' x1' x2' x3' E' T' r_x0' i_x1' i_x2' i_x3' hl
      exact ih E' T' r_x0' i_x1' i_x2' i_x3' (by have := i_x3'.1; have := i_x3'.2; omega)
    have hc_4 : C_4 ≤ x3.toInt := by omega
    refine s_br (fun c_1 => ?_) (fun c_1 => ?_)
    · have _ := c_1
      refine s_gd (rg_bool i_x2) ?_
      exact s_some ⟨E, i_x2⟩
    · have _ := c_1
      have i_f_2 : Rg (0) (11) (x3) := rg_lt1 (nle_lt c_1) i_x3 (thI T r_x0 (k := 15) (i := 2) rfl : Rg (0) (12) ((hI h x0 2)))
      have i_f_3 : Rg (1) (12) ((hI h x0 2)) := rg_lt2 (nle_lt c_1) i_x3 (thI T r_x0 (k := 15) (i := 2) rfl : Rg (0) (12) ((hI h x0 2)))
      have m_4 : Rg (0) (6) ((0 : Int32)) := (rg_m (rg_b rfl : Rg (0) (0) ((0 : Int32))) (by decide))
      exact zX14_isBecome_15 hF @hk_4 F E T r_x0 i_x1 i_x2 i_f_2 (rg_m (rg_b rfl : Rg (0) (0) ((0 : Int32))) (by decide)) hc_4 (by have := m_4.1; have := m_4.2; omega)
set_option maxRecDepth 20000 in
theorem zX14_isBecome {ρ : Nat → Nat} {c : Cm} {F : Nat} (hF : 700000 ≤ F) {h : Hp} {x0 : Nat} {x1 : Int32} (T : TH ρ c h) (r_x0 : ρ x0 = 15) (i_x1 : Rg (0) (11) (x1)) : Sat (sX14_isBecome F h x0 x1) (ZI0 h (0) (1)) := by
  unfold sX14_isBecome 
  have m_1 : Rg (0) (12) ((0 : Int32)) := (rg_m (rg_b rfl : Rg (0) (0) ((0 : Int32))) (by decide))
  exact zX14_isBecome_4 hF F rfl T r_x0 i_x1 (rg_m (rg_b rfl : Rg (0) (0) ((0 : Int32))) (by decide)) (rg_m (rg_b rfl : Rg (0) (0) ((0 : Int32))) (by decide)) (by have := m_1.1; have := m_1.2; omega)
set_option maxRecDepth 20000 in
theorem zX15_isGame {ρ : Nat → Nat} {c : Cm} {F : Nat} (hF : 700000 ≤ F) {h : Hp} {x0 : Int32} (T : TH ρ c h) (i_x0 : Rg (-2147483648) (2147483647) (x0)) : Sat (sX15_isGame h x0) (ZP0 h (0) (1) (0) (Rg (0) (7) (x0))) := by
  unfold sX15_isGame sX15_isGame_14 sX15_isGame_15
  refine s_br (fun c_1 => ?_) (fun c_1 => ?_)
  · have _ := c_1
    have i_f_2 : Rg (-2147483648) (-1) (x0) := rg_lt1 c_1 i_x0 (rg_b rfl : Rg (0) (0) (0 : Int32))
    refine s_gd (rg_bool (rg_m (rg_b rfl : Rg (0) (0) ((0 : Int32))) (by decide))) ?_
    exact s_some ⟨rfl, (rg_m (rg_b rfl : Rg (0) (0) ((0 : Int32))) (by decide)), (fun q => absurd (rz_s (rg_b rfl : Rg (0) (0) ((0 : Int32))) (rg_b rfl : Rg (0) (0) (0 : Int32))) q)⟩
  · have _ := c_1
    have i_f_3 : Rg (0) (2147483647) (x0) := rg_le2 (nlt_le c_1) (rg_b rfl : Rg (0) (0) (0 : Int32)) i_x0
    refine s_br (fun c_4 => ?_) (fun c_4 => ?_)
    · have _ := c_4
      have i_f_5 : Rg (8) (2147483647) (x0) := rg_le2 c_4 (rg_b rfl : Rg (8) (8) ((8 : Int32))) i_f_3
      refine s_gd (rg_bool (rg_m (rg_b rfl : Rg (0) (0) ((0 : Int32))) (by decide))) ?_
      exact s_some ⟨rfl, (rg_m (rg_b rfl : Rg (0) (0) ((0 : Int32))) (by decide)), (fun q => absurd (rz_s (rg_b rfl : Rg (0) (0) ((0 : Int32))) (rg_b rfl : Rg (0) (0) (0 : Int32))) q)⟩
    · have _ := c_4
      have i_f_6 : Rg (0) (7) (x0) := rg_lt1 (nle_lt c_4) i_f_3 (rg_b rfl : Rg (8) (8) ((8 : Int32)))
      refine s_gd (rg_bool (rg_m (rg_b rfl : Rg (1) (1) ((1 : Int32))) (by decide))) ?_
      exact s_some ⟨rfl, (rg_m (rg_b rfl : Rg (1) (1) ((1 : Int32))) (by decide)), (fun _ => i_f_6)⟩
set_option maxRecDepth 20000 in
theorem zX15_hasMen_42 {ρ : Nat → Nat} {c : Cm} {h0 : Hp} {F : Nat} (hF : 700000 ≤ F) : ∀ (f : Nat) {h : Hp} {x0 : Nat} {x1 : Nat} {x2 : Int32} {x3 : Int32}, h = h0 → TH ρ c h → ρ x0 = 16 → ρ x1 = 13 → Rg (0) (1) (x2) → Rg (0) (12) (x3) → (12 - x3.toInt).toNat < f → Sat (sX15_hasMen_42 F f h x0 x1 x2 x3) (ZI0 h0 (0) (1)) := by
  intro f
  induction f with
  | zero => intros; omega
  | succ f ih =>
    intro h x0 x1 x2 x3 E T r_x0 r_x1 i_x2 i_x3 hm
    rw [sX15_hasMen_42]
    obtain ⟨C_42, hC_42⟩ : ∃ C : Int, C = x3.toInt := ⟨_, rfl⟩
    have hk_42 : ∀ {h : Hp} {x0 : Nat} {x1 : Nat} {x2 : Int32} {x3 : Int32}, h = h0 → TH ρ c h → ρ x0 = 16 → ρ x1 = 13 → Rg (0) (1) (x2) → Rg (0) (12) (x3) → C_42 < x3.toInt → Sat (sX15_hasMen_42 F f h x0 x1 x2 x3) (ZI0 h0 (0) (1)) := by
      intro h' x0' x1' x2' x3' E' T' r_x0' r_x1' i_x2' i_x3' hl
      exact ih E' T' r_x0' r_x1' i_x2' i_x3' (by have := i_x3'.1; have := i_x3'.2; omega)
    have hc_42 : C_42 ≤ x3.toInt := by omega
    obtain ⟨r_1, e_r_1, q_r_1⟩ := thR T r_x0 (k := 16) (i := 4) (k2 := 15) rfl (by decide)
    refine s_ref e_r_1 ?_
    refine s_br (fun c_1 => ?_) (fun c_1 => ?_)
    · have _ := c_1
      exact s_some ⟨E, (rg_m (rg_b rfl : Rg (0) (0) ((0 : Int32))) (by decide))⟩
    · have _ := c_1
      have i_f_2 : Rg (0) (11) (x3) := rg_lt1 (nle_lt c_1) i_x3 (thI T q_r_1 (k := 15) (i := 2) rfl : Rg (0) (12) ((hI h r_1 2)))
      have i_f_3 : Rg (1) (12) ((hI h r_1 2)) := rg_lt2 (nle_lt c_1) i_x3 (thI T q_r_1 (k := 15) (i := 2) rfl : Rg (0) (12) ((hI h r_1 2)))
      obtain ⟨r_3, e_r_3, q_r_3⟩ := thR T r_x1 (k := 13) (i := 5) (k2 := 64) rfl (by decide)
      refine s_ref e_r_3 ?_
      refine s_gd (by rw [thN T q_r_3 (k := 64) (n := 24) rfl (by decide)]; exact rg_inB ((rg_add (rg_mulc' (rg_b rfl : Rg (2) (2) ((2 : Int32))) i_f_2 (by decide) : Rg (0) (22) (((2 : Int32) * x3))) i_x2 (by decide) : Rg (0) (23) ((((2 : Int32) * x3) + x2))) : Rg (0) (23) ((((2 : Int32) * x3) + x2))) (by decide)) ?_
      refine s_br (fun c_4 => ?_) (fun c_4 => ?_)
      · have _ := c_4
        have i_f_5 : Rg (0) (0) ((hI h r_3 (((2 : Int32) * x3) + x2).toNatClampNeg)) := rg_le1 c_4 (thI T q_r_3 (k := 64) rfl : Rg (0) (16) ((hI h r_3 (((2 : Int32) * x3) + x2).toNatClampNeg))) (rg_b rfl : Rg (0) (0) (0 : Int32))
        refine s_q (fun v_6 e_6 => ?_)
        have i_v_6 : Rg (1) (12) (v_6) := by rw [e_6]; exact (rg_add i_f_2 (rg_b rfl : Rg (1) (1) ((1 : Int32))) (by decide) : Rg (1) (12) (x3 + (1 : Int32)))
        have m_7 : (v_6).toInt = x3.toInt + 1 := by rw [e_6]; exact rg_inc i_f_2 (by decide)
        exact hk_42 E T r_x0 r_x1 i_x2 (rg_m i_v_6 (by decide)) (by have := hc_42; omega)
      · have _ := c_4
        have i_f_8 : Rg (1) (16) ((hI h r_3 (((2 : Int32) * x3) + x2).toNatClampNeg)) := rg_lt2 (nle_lt c_4) (rg_b rfl : Rg (0) (0) (0 : Int32)) (thI T q_r_3 (k := 64) rfl : Rg (0) (16) ((hI h r_3 (((2 : Int32) * x3) + x2).toNatClampNeg)))
        exact s_some ⟨E, (rg_m (rg_b rfl : Rg (1) (1) ((1 : Int32))) (by decide))⟩
set_option maxRecDepth 20000 in
theorem zX15_hasMen_2 {ρ : Nat → Nat} {c : Cm} {h0 : Hp} {F : Nat} (hF : 700000 ≤ F) : ∀ (f : Nat) {h : Hp} {x0 : Nat} {x1 : Nat} {x2 : Int32} {x3 : Int32}, h = h0 → TH ρ c h → ρ x0 = 16 → ρ x1 = 13 → Rg (0) (1) (x2) → Rg (0) (64) (x3) → (64 - x3.toInt).toNat < f → Sat (sX15_hasMen_2 F f h x0 x1 x2 x3) (ZI0 h0 (0) (1)) := by
  intro f
  induction f with
  | zero => intros; omega
  | succ f ih =>
    intro h x0 x1 x2 x3 E T r_x0 r_x1 i_x2 i_x3 hm
    rw [sX15_hasMen_2]
    unfold sX15_hasMen_34 sX15_sideOf
    obtain ⟨C_2, hC_2⟩ : ∃ C : Int, C = x3.toInt := ⟨_, rfl⟩
    have hk_2 : ∀ {h : Hp} {x0 : Nat} {x1 : Nat} {x2 : Int32} {x3 : Int32}, h = h0 → TH ρ c h → ρ x0 = 16 → ρ x1 = 13 → Rg (0) (1) (x2) → Rg (0) (64) (x3) → C_2 < x3.toInt → Sat (sX15_hasMen_2 F f h x0 x1 x2 x3) (ZI0 h0 (0) (1)) := by
      intro h' x0' x1' x2' x3' E' T' r_x0' r_x1' i_x2' i_x3' hl
      exact ih E' T' r_x0' r_x1' i_x2' i_x3' (by have := i_x3'.1; have := i_x3'.2; omega)
    have hc_2 : C_2 ≤ x3.toInt := by omega
    refine s_br (fun c_1 => ?_) (fun c_1 => ?_)
    · have _ := c_1
      have i_f_2 : Rg (9) (64) (x3) := rg_le2 c_1 (thI T r_x0 (k := 16) (i := 13) rfl : Rg (9) (64) ((hI h x0 13))) i_x3
      have m_3 : Rg (0) (12) ((0 : Int32)) := (rg_m (rg_b rfl : Rg (0) (0) ((0 : Int32))) (by decide))
      exact zX15_hasMen_42 hF F E T r_x0 r_x1 i_x2 (rg_m (rg_b rfl : Rg (0) (0) ((0 : Int32))) (by decide)) (by have := m_3.1; have := m_3.2; omega)
    · have _ := c_1
      have i_f_4 : Rg (0) (63) (x3) := rg_lt1 (nle_lt c_1) i_x3 (thI T r_x0 (k := 16) (i := 13) rfl : Rg (9) (64) ((hI h x0 13)))
      obtain ⟨r_2, e_r_2, q_r_2⟩ := thR T r_x1 (k := 13) (i := 0) (k2 := 62) rfl (by decide)
      refine s_ref e_r_2 ?_
      refine s_gd (by rw [thN T q_r_2 (k := 62) (n := 64) rfl (by decide)]; exact rg_inB (i_f_4 : Rg (0) (63) (x3)) (by decide)) ?_
      refine s_br (fun c_5 => ?_) (fun c_5 => ?_)
      · have _ := c_5
        have i_f_6 : Rg (0) (0) ((hI h r_2 x3.toNatClampNeg)) := rg_le1 c_5 (thI T q_r_2 (k := 62) rfl : Rg (0) (24) ((hI h r_2 x3.toNatClampNeg))) (rg_b rfl : Rg (0) (0) (0 : Int32))
        refine s_q (fun v_1q1 e_7 => ?_)
        have i_v_1q1 : Rg (1) (64) (v_1q1) := by rw [e_7]; exact (rg_add i_f_4 (rg_b rfl : Rg (1) (1) ((1 : Int32))) (by decide) : Rg (1) (64) (x3 + (1 : Int32)))
        have m_8 : (v_1q1).toInt = x3.toInt + 1 := by rw [e_7]; exact rg_inc i_f_4 (by decide)
        exact hk_2 E T r_x0 r_x1 i_x2 (rg_m i_v_1q1 (by decide)) (by have := hc_2; omega)
      · have _ := c_5
        have i_f_9 : Rg (1) (24) ((hI h r_2 x3.toNatClampNeg)) := rg_lt2 (nle_lt c_5) (rg_b rfl : Rg (0) (0) (0 : Int32)) (thI T q_r_2 (k := 62) rfl : Rg (0) (24) ((hI h r_2 x3.toNatClampNeg)))
        refine s_ref e_r_2 ?_
        refine s_gd (by rw [thN T q_r_2 (k := 62) (n := 64) rfl (by decide)]; exact rg_inB (i_f_4 : Rg (0) (63) (x3)) (by decide)) ?_
        refine s_pu (fun o_7z e_10 => ?_)
        try dsimp only
        have i_o_7z : Rg (0) (1) (o_7z) := by rw [e_10]; exact (rg_and (rg_b rfl : Rg (1) (1) ((1 : Int32))) (by decide) : Rg (0) (1) (((hI h r_2 x3.toNatClampNeg) - (1 : Int32)) &&& (1 : Int32)))
        refine s_br (fun c_11 => ?_) (fun c_11 => ?_)
        · have _ := c_11
          exact s_some ⟨E, (rg_m (rg_b rfl : Rg (1) (1) ((1 : Int32))) (by decide))⟩
        · have _ := c_11
          refine s_q (fun v_1q2 e_12 => ?_)
          have i_v_1q2 : Rg (1) (64) (v_1q2) := by rw [e_12]; exact (rg_add i_f_4 (rg_b rfl : Rg (1) (1) ((1 : Int32))) (by decide) : Rg (1) (64) (x3 + (1 : Int32)))
          have m_13 : (v_1q2).toInt = x3.toInt + 1 := by rw [e_12]; exact rg_inc i_f_4 (by decide)
          exact hk_2 E T r_x0 r_x1 i_x2 (rg_m i_v_1q2 (by decide)) (by have := hc_2; omega)
set_option maxRecDepth 20000 in
theorem zX15_hasMen {ρ : Nat → Nat} {c : Cm} {F : Nat} (hF : 700000 ≤ F) {h : Hp} {x0 : Nat} {x1 : Nat} {x2 : Int32} (T : TH ρ c h) (r_x0 : ρ x0 = 16) (r_x1 : ρ x1 = 13) (i_x2 : Rg (0) (1) (x2)) : Sat (sX15_hasMen F h x0 x1 x2) (ZI0 h (0) (1)) := by
  unfold sX15_hasMen 
  have m_1 : Rg (0) (64) ((0 : Int32)) := (rg_m (rg_b rfl : Rg (0) (0) ((0 : Int32))) (by decide))
  exact zX15_hasMen_2 hF F rfl T r_x0 r_x1 i_x2 (rg_m (rg_b rfl : Rg (0) (0) ((0 : Int32))) (by decide)) (by have := m_1.1; have := m_1.2; omega)
set_option maxRecDepth 20000 in
theorem zX15_royalOf_2 {ρ : Nat → Nat} {c : Cm} {h0 : Hp} {F : Nat} (hF : 700000 ≤ F) : ∀ (f : Nat) {h : Hp} {x0 : Nat} {x1 : Nat} {x2 : Int32} {x3 : Int32}, h = h0 → TH ρ c h → ρ x0 = 16 → ρ x1 = 13 → Rg (0) (1) (x2) → Rg (0) (64) (x3) → (64 - x3.toInt).toNat < f → Sat (sX15_royalOf_2 F f h x0 x1 x2 x3) (ZI0 h0 (-1) (63)) := by
  intro f
  induction f with
  | zero => intros; omega
  | succ f ih =>
    intro h x0 x1 x2 x3 E T r_x0 r_x1 i_x2 i_x3 hm
    rw [sX15_royalOf_2]
    unfold sX15_royalOf_49 sX15_valueOf
    obtain ⟨C_2, hC_2⟩ : ∃ C : Int, C = x3.toInt := ⟨_, rfl⟩
    have hk_2 : ∀ {h : Hp} {x0 : Nat} {x1 : Nat} {x2 : Int32} {x3 : Int32}, h = h0 → TH ρ c h → ρ x0 = 16 → ρ x1 = 13 → Rg (0) (1) (x2) → Rg (0) (64) (x3) → C_2 < x3.toInt → Sat (sX15_royalOf_2 F f h x0 x1 x2 x3) (ZI0 h0 (-1) (63)) := by
      intro h' x0' x1' x2' x3' E' T' r_x0' r_x1' i_x2' i_x3' hl
      exact ih E' T' r_x0' r_x1' i_x2' i_x3' (by have := i_x3'.1; have := i_x3'.2; omega)
    have hc_2 : C_2 ≤ x3.toInt := by omega
    refine s_br (fun c_1 => ?_) (fun c_1 => ?_)
    · have _ := c_1
      have i_f_2 : Rg (9) (64) (x3) := rg_le2 c_1 (thI T r_x0 (k := 16) (i := 13) rfl : Rg (9) (64) ((hI h x0 13))) i_x3
      exact s_some ⟨E, (rg_m (rg_b rfl : Rg (-1) (-1) ((- 1 : Int32))) (by decide))⟩
    · have _ := c_1
      have i_f_3 : Rg (0) (63) (x3) := rg_lt1 (nle_lt c_1) i_x3 (thI T r_x0 (k := 16) (i := 13) rfl : Rg (9) (64) ((hI h x0 13)))
      obtain ⟨r_2, e_r_2, q_r_2⟩ := thR T r_x0 (k := 16) (i := 4) (k2 := 15) rfl (by decide)
      refine s_ref e_r_2 ?_
      refine s_br (fun c_4 => ?_) (fun c_4 => ?_)
      · have _ := c_4
        have i_f_5 : Rg (-1) (-1) ((hI h r_2 10)) := rg_eq c_4 (rg_b rfl : Rg (-1) (-1) ((- 1 : Int32)))
        exact s_some ⟨E, (rg_m (rg_b rfl : Rg (-1) (-1) ((- 1 : Int32))) (by decide))⟩
      · have _ := c_4
        have i_f_6 : Rg (0) (11) ((hI h r_2 10)) := rg_nlo c_4 (thI T q_r_2 (k := 15) (i := 10) rfl : Rg (-1) (11) ((hI h r_2 10))) (rg_b rfl : Rg (-1) (-1) ((- 1 : Int32)))
        obtain ⟨r_4, e_r_4, q_r_4⟩ := thR T r_x1 (k := 13) (i := 0) (k2 := 62) rfl (by decide)
        refine s_ref e_r_4 ?_
        refine s_gd (by rw [thN T q_r_4 (k := 62) (n := 64) rfl (by decide)]; exact rg_inB (i_f_3 : Rg (0) (63) (x3)) (by decide)) ?_
        refine s_ref e_r_2 ?_
        refine s_pu (fun o_7z e_7 => ?_)
        try dsimp only
        have i_o_7z : Rg (1) (24) (o_7z) := by rw [e_7]; exact (rg_add (rg_add (rg_b rfl : Rg (1) (1) ((1 : Int32))) (rg_mulc' (rg_b rfl : Rg (2) (2) ((2 : Int32))) i_f_6 (by decide) : Rg (0) (22) (((2 : Int32) * (hI h r_2 10)))) (by decide) : Rg (1) (23) (((1 : Int32) + ((2 : Int32) * (hI h r_2 10))))) i_x2 (by decide) : Rg (1) (24) (((1 : Int32) + ((2 : Int32) * (hI h r_2 10))) + x2))
        refine s_br (fun c_8 => ?_) (fun c_8 => ?_)
        · have _ := c_8
          have i_f_9 : Rg (1) (24) ((hI h r_4 x3.toNatClampNeg)) := rg_eq c_8 i_o_7z
          exact s_some ⟨E, (rg_m i_f_3 (by decide))⟩
        · have _ := c_8
          refine s_q (fun v_9 e_10 => ?_)
          have i_v_9 : Rg (1) (64) (v_9) := by rw [e_10]; exact (rg_add i_f_3 (rg_b rfl : Rg (1) (1) ((1 : Int32))) (by decide) : Rg (1) (64) (x3 + (1 : Int32)))
          have m_11 : (v_9).toInt = x3.toInt + 1 := by rw [e_10]; exact rg_inc i_f_3 (by decide)
          exact hk_2 E T r_x0 r_x1 i_x2 (rg_m i_v_9 (by decide)) (by have := hc_2; omega)
set_option maxRecDepth 20000 in
theorem zX15_royalOf {ρ : Nat → Nat} {c : Cm} {F : Nat} (hF : 700000 ≤ F) {h : Hp} {x0 : Nat} {x1 : Nat} {x2 : Int32} (T : TH ρ c h) (r_x0 : ρ x0 = 16) (r_x1 : ρ x1 = 13) (i_x2 : Rg (0) (1) (x2)) : Sat (sX15_royalOf F h x0 x1 x2) (ZI0 h (-1) (63)) := by
  unfold sX15_royalOf 
  have m_1 : Rg (0) (64) ((0 : Int32)) := (rg_m (rg_b rfl : Rg (0) (0) ((0 : Int32))) (by decide))
  exact zX15_royalOf_2 hF F rfl T r_x0 r_x1 i_x2 (rg_m (rg_b rfl : Rg (0) (0) ((0 : Int32))) (by decide)) (by have := m_1.1; have := m_1.2; omega)
set_option maxRecDepth 20000 in
theorem zX15_early_240 {ρ : Nat → Nat} {c : Cm} {F : Nat} {w_x1 : Nat} (hF : 700000 ≤ F) {k_218 : Hp → Nat → Nat → Int32 → Option (Int32 × Hp)} {C_218 : Int} (hk_218 : ∀ {h : Hp} {x0 : Nat} {x1 : Nat} {x2 : Int32}, cw c x1 = w_x1 → TH ρ c h → ρ x0 = 16 → ρ x1 = 13 → Rg (0) (2) (x2) → C_218 < x2.toInt → Sat (k_218 h x0 x1 x2) (ZI ρ c (0) (4))) (hA : pmA c [(16, 29)]) {h : Hp} {x0 : Nat} {x1 : Nat} {x2 : Int32} {t0 : Int32} (o_x1 : cw c x1 = w_x1) (T : TH ρ c h) (r_x0 : ρ x0 = 16) (r_x1 : ρ x1 = 13) (i_x2 : Rg (0) (1) (x2)) (i_t0 : Rg (0) (1) (t0)) (hc_218 : C_218 ≤ x2.toInt) : Sat (sX15_early_240 F k_218 h x0 x1 x2 t0) (ZI ρ c (0) (4)) := by
  unfold sX15_early_240 sX15_early_269
  refine s_dI0 (zX15_hasMen hF T r_x0 r_x1 i_t0) (fun o_1 eb_o_1 e_o_1 i_o_1 => ?_)
  have T_1 := th_eq e_o_1 T
  refine s_br (fun c_2 => ?_) (fun c_2 => ?_)
  · have _ := c_2
    have i_f_3 : Rg (0) (0) (o_1.1) := rg_eq c_2 (rg_b rfl : Rg (0) (0) (0 : Int32))
    obtain ⟨r_4, e_r_4, q_r_4⟩ := thR T_1 r_x0 (k := 16) (i := 4) (k2 := 15) rfl (by decide)
    refine s_ref e_r_4 ?_
    refine s_br (fun c_4 => ?_) (fun c_4 => ?_)
    · have _ := c_4
      have i_f_5 : Rg (1) (1) ((hI o_1.2 r_4 23)) := rg_eq c_4 (rg_b rfl : Rg (1) (1) ((1 : Int32)))
      refine s_hq (th_wI T_1 r_x0 (k := 16) (lo := (0)) (hi := (2)) rfl ((rg_m i_t0 (by decide)) : Rg (0) (2) (t0)) (by decide) (by decide) (pm_a hA rfl)) (fun h_1q1 T_6 w_7 => ?_)
      exact s_some ⟨(T_6), (rg_m (rg_b rfl : Rg (4) (4) ((4 : Int32))) (by decide))⟩
    · have _ := c_4
      refine s_hq (th_wI T_1 r_x0 (k := 16) (lo := (0)) (hi := (2)) rfl ((rg_m (rg_sub (rg_b rfl : Rg (1) (1) ((1 : Int32))) i_t0 (by decide) : Rg (0) (1) (((1 : Int32) - t0))) (by decide)) : Rg (0) (2) (((1 : Int32) - t0))) (by decide) (by decide) (pm_a hA rfl)) (fun h_1q2 T_8 w_9 => ?_)
      exact s_some ⟨(T_8), (rg_m (rg_b rfl : Rg (4) (4) ((4 : Int32))) (by decide))⟩
  · have _ := c_2
    have i_f_10 : Rg (1) (1) (o_1.1) := rg_nlo c_2 i_o_1 (rg_b rfl : Rg (0) (0) (0 : Int32))
    refine s_q (fun v_3 e_11 => ?_)
    have i_v_3 : Rg (1) (2) (v_3) := by rw [e_11]; exact (rg_add i_x2 (rg_b rfl : Rg (1) (1) ((1 : Int32))) (by decide) : Rg (1) (2) (x2 + (1 : Int32)))
    have m_12 : (v_3).toInt = x2.toInt + 1 := by rw [e_11]; exact rg_inc i_x2 (by decide)
    exact hk_218 o_x1 T_1 r_x0 r_x1 (rg_m i_v_3 (by decide)) (by have := hc_218; omega)
set_option maxRecDepth 20000 in
theorem zX15_early_186 {ρ : Nat → Nat} {c : Cm} {F : Nat} {w_x1 : Nat} (hF : 700000 ≤ F) {k_154 : Hp → Nat → Nat → Int32 → Option (Int32 × Hp)} {C_154 : Int} (hk_154 : ∀ {h : Hp} {x0 : Nat} {x1 : Nat} {x2 : Int32}, cw c x1 = w_x1 → TH ρ c h → ρ x0 = 16 → ρ x1 = 13 → Rg (0) (2) (x2) → C_154 < x2.toInt → Sat (k_154 h x0 x1 x2) (ZI ρ c (0) (4))) (hA : pmA c [(16, 29)]) {h : Hp} {x0 : Nat} {x1 : Nat} {x2 : Int32} {t0 : Int32} (o_x1 : cw c x1 = w_x1) (T : TH ρ c h) (r_x0 : ρ x0 = 16) (r_x1 : ρ x1 = 13) (i_x2 : Rg (0) (1) (x2)) (i_t0 : Rg (0) (1) (t0)) (hc_154 : C_154 ≤ x2.toInt) : Sat (sX15_early_186 F k_154 h x0 x1 x2 t0) (ZI ρ c (0) (4)) := by
  unfold sX15_early_186 
  obtain ⟨r_1, e_r_1, q_r_1⟩ := thR T r_x1 (k := 13) (i := 6) (k2 := 65) rfl (by decide)
  refine s_ref e_r_1 ?_
  refine s_gd (by rw [thN T q_r_1 (k := 65) (n := 2) rfl (by decide)]; exact rg_inB (i_t0 : Rg (0) (1) (t0)) (by decide)) ?_
  obtain ⟨r_3, e_r_3, q_r_3⟩ := thR T r_x0 (k := 16) (i := 4) (k2 := 15) rfl (by decide)
  refine s_ref e_r_3 ?_
  refine s_br (fun c_1 => ?_) (fun c_1 => ?_)
  · have _ := c_1
    have i_f_2 : Rg (0) (8) ((hI h r_1 t0.toNatClampNeg)) := rg_lt1 c_1 (thI T q_r_1 (k := 65) rfl : Rg (0) (9) ((hI h r_1 t0.toNatClampNeg))) (thI T q_r_3 (k := 15) (i := 20) rfl : Rg (0) (9) ((hI h r_3 20)))
    have i_f_3 : Rg (1) (9) ((hI h r_3 20)) := rg_lt2 c_1 (thI T q_r_1 (k := 65) rfl : Rg (0) (9) ((hI h r_1 t0.toNatClampNeg))) (thI T q_r_3 (k := 15) (i := 20) rfl : Rg (0) (9) ((hI h r_3 20)))
    refine s_q (fun v_5 e_4 => ?_)
    have i_v_5 : Rg (1) (2) (v_5) := by rw [e_4]; exact (rg_add i_x2 (rg_b rfl : Rg (1) (1) ((1 : Int32))) (by decide) : Rg (1) (2) (x2 + (1 : Int32)))
    have m_5 : (v_5).toInt = x2.toInt + 1 := by rw [e_4]; exact rg_inc i_x2 (by decide)
    exact hk_154 o_x1 T r_x0 r_x1 (rg_m i_v_5 (by decide)) (by have := hc_154; omega)
  · have _ := c_1
    refine s_hq (th_wI T r_x0 (k := 16) (lo := (0)) (hi := (2)) rfl ((rg_m i_t0 (by decide)) : Rg (0) (2) (t0)) (by decide) (by decide) (pm_a hA rfl)) (fun h_6 T_6 w_7 => ?_)
    exact s_some ⟨(T_6), (rg_m (rg_b rfl : Rg (3) (3) ((3 : Int32))) (by decide))⟩
set_option maxRecDepth 20000 in
theorem zX15_early_107 {ρ : Nat → Nat} {c : Cm} {F : Nat} {w_x1 : Nat} (hF : 700000 ≤ F) {k_73 : Hp → Nat → Nat → Int32 → Option (Int32 × Hp)} {C_73 : Int} (hk_73 : ∀ {h : Hp} {x0 : Nat} {x1 : Nat} {x2 : Int32}, cw c x1 = w_x1 → TH ρ c h → ρ x0 = 16 → ρ x1 = 13 → Rg (0) (2) (x2) → C_73 < x2.toInt → Sat (k_73 h x0 x1 x2) (ZI ρ c (0) (4))) (hA : pmA c [(16, 29)]) {h : Hp} {x0 : Nat} {x1 : Nat} {x2 : Int32} {t0 : Int32} (o_x1 : cw c x1 = w_x1) (T : TH ρ c h) (r_x0 : ρ x0 = 16) (r_x1 : ρ x1 = 13) (i_x2 : Rg (0) (1) (x2)) (i_t0 : Rg (0) (1) (t0)) (hc_73 : C_73 ≤ x2.toInt) : Sat (sX15_early_107 F k_73 h x0 x1 x2 t0) (ZI ρ c (0) (4)) := by
  unfold sX15_early_107 sX15_early_146
  refine s_dI0 (zX15_royalOf hF T r_x0 r_x1 i_t0) (fun o_1 eb_o_1 e_o_1 i_o_1 => ?_)
  have T_1 := th_eq e_o_1 T
  refine s_br (fun c_2 => ?_) (fun c_2 => ?_)
  · have _ := c_2
    have i_f_3 : Rg (-1) (-1) (o_1.1) := rg_eq c_2 (rg_b rfl : Rg (-1) (-1) ((- 1 : Int32)))
    refine s_q (fun v_1q1 e_4 => ?_)
    have i_v_1q1 : Rg (1) (2) (v_1q1) := by rw [e_4]; exact (rg_add i_x2 (rg_b rfl : Rg (1) (1) ((1 : Int32))) (by decide) : Rg (1) (2) (x2 + (1 : Int32)))
    have m_5 : (v_1q1).toInt = x2.toInt + 1 := by rw [e_4]; exact rg_inc i_x2 (by decide)
    exact hk_73 o_x1 T_1 r_x0 r_x1 (rg_m i_v_1q1 (by decide)) (by have := hc_73; omega)
  · have _ := c_2
    have i_f_6 : Rg (0) (63) (o_1.1) := rg_nlo c_2 i_o_1 (rg_b rfl : Rg (-1) (-1) ((- 1 : Int32)))
    obtain ⟨r_3, e_r_3, q_r_3⟩ := thR T_1 r_x0 (k := 16) (i := 4) (k2 := 15) rfl (by decide)
    refine s_ref e_r_3 ?_
    refine s_br (fun c_7 => ?_) (fun c_7 => ?_)
    · have _ := c_7
      refine s_hq (th_wI T_1 r_x0 (k := 16) (lo := (0)) (hi := (2)) rfl ((rg_m i_t0 (by decide)) : Rg (0) (2) (t0)) (by decide) (by decide) (pm_a hA rfl)) (fun h_5 T_8 w_9 => ?_)
      exact s_some ⟨(T_8), (rg_m (rg_b rfl : Rg (2) (2) ((2 : Int32))) (by decide))⟩
    · have _ := c_7
      refine s_q (fun v_1q2 e_10 => ?_)
      have i_v_1q2 : Rg (1) (2) (v_1q2) := by rw [e_10]; exact (rg_add i_x2 (rg_b rfl : Rg (1) (1) ((1 : Int32))) (by decide) : Rg (1) (2) (x2 + (1 : Int32)))
      have m_11 : (v_1q2).toInt = x2.toInt + 1 := by rw [e_10]; exact rg_inc i_x2 (by decide)
      exact hk_73 o_x1 T_1 r_x0 r_x1 (rg_m i_v_1q2 (by decide)) (by have := hc_73; omega)
set_option maxRecDepth 20000 in
theorem zX15_early_45 {ρ : Nat → Nat} {c : Cm} {F : Nat} {w_x1 : Nat} (hF : 700000 ≤ F) {k_2 : Hp → Nat → Nat → Int32 → Option (Int32 × Hp)} {C_2 : Int} (hk_2 : ∀ {h : Hp} {x0 : Nat} {x1 : Nat} {x2 : Int32}, cw c x1 = w_x1 → TH ρ c h → ρ x0 = 16 → ρ x1 = 13 → Rg (0) (2) (x2) → C_2 < x2.toInt → Sat (k_2 h x0 x1 x2) (ZI ρ c (0) (4))) (hA : pmA c [(16, 29)]) {h : Hp} {x0 : Nat} {x1 : Nat} {x2 : Int32} {t0 : Int32} (o_x1 : cw c x1 = w_x1) (T : TH ρ c h) (r_x0 : ρ x0 = 16) (r_x1 : ρ x1 = 13) (i_x2 : Rg (0) (1) (x2)) (i_t0 : Rg (0) (1) (t0)) (hc_2 : C_2 ≤ x2.toInt) : Sat (sX15_early_45 F k_2 h x0 x1 x2 t0) (ZI ρ c (0) (4)) := by
  unfold sX15_early_45 
  refine s_dI0 (zX15_royalOf hF T r_x0 r_x1 i_t0) (fun o_1 eb_o_1 e_o_1 i_o_1 => ?_)
  have T_1 := th_eq e_o_1 T
  refine s_br (fun c_2 => ?_) (fun c_2 => ?_)
  · have _ := c_2
    have i_f_3 : Rg (-1) (-1) (o_1.1) := rg_eq c_2 (rg_b rfl : Rg (-1) (-1) ((- 1 : Int32)))
    refine s_hq (th_wI T_1 r_x0 (k := 16) (lo := (0)) (hi := (2)) rfl ((rg_m (rg_sub (rg_b rfl : Rg (1) (1) ((1 : Int32))) i_t0 (by decide) : Rg (0) (1) (((1 : Int32) - t0))) (by decide)) : Rg (0) (2) (((1 : Int32) - t0))) (by decide) (by decide) (pm_a hA rfl)) (fun h_4 T_4 w_5 => ?_)
    exact s_some ⟨(T_4), (rg_m (rg_b rfl : Rg (1) (1) ((1 : Int32))) (by decide))⟩
  · have _ := c_2
    have i_f_6 : Rg (0) (63) (o_1.1) := rg_nlo c_2 i_o_1 (rg_b rfl : Rg (-1) (-1) ((- 1 : Int32)))
    refine s_q (fun v_3 e_7 => ?_)
    have i_v_3 : Rg (1) (2) (v_3) := by rw [e_7]; exact (rg_add i_x2 (rg_b rfl : Rg (1) (1) ((1 : Int32))) (by decide) : Rg (1) (2) (x2 + (1 : Int32)))
    have m_8 : (v_3).toInt = x2.toInt + 1 := by rw [e_7]; exact rg_inc i_x2 (by decide)
    exact hk_2 o_x1 T_1 r_x0 r_x1 (rg_m i_v_3 (by decide)) (by have := hc_2; omega)
set_option maxRecDepth 20000 in
theorem zX15_early_218 {ρ : Nat → Nat} {c : Cm} {F : Nat} {w_x1 : Nat} (hF : 700000 ≤ F) (hA : pmA c [(16, 29)]) : ∀ (f : Nat) {h : Hp} {x0 : Nat} {x1 : Nat} {x2 : Int32}, cw c x1 = w_x1 → TH ρ c h → ρ x0 = 16 → ρ x1 = 13 → Rg (0) (2) (x2) → (2 - x2.toInt).toNat < f → Sat (sX15_early_218 F f h x0 x1 x2) (ZI ρ c (0) (4)) := by
  intro f
  induction f with
  | zero => intros; omega
  | succ f ih =>
    intro h x0 x1 x2 o_x1 T r_x0 r_x1 i_x2 hm
    rw [sX15_early_218]
    obtain ⟨C_218, hC_218⟩ : ∃ C : Int, C = x2.toInt := ⟨_, rfl⟩
    have hk_218 : ∀ {h : Hp} {x0 : Nat} {x1 : Nat} {x2 : Int32}, cw c x1 = w_x1 → TH ρ c h → ρ x0 = 16 → ρ x1 = 13 → Rg (0) (2) (x2) → C_218 < x2.toInt → Sat (sX15_early_218 F f h x0 x1 x2) (ZI ρ c (0) (4)) := by
      intro h' x0' x1' x2' o_x1' T' r_x0' r_x1' i_x2' hl
      exact ih o_x1' T' r_x0' r_x1' i_x2' (by have := i_x2'.1; have := i_x2'.2; omega)
    have hc_218 : C_218 ≤ x2.toInt := by omega
    refine s_br (fun c_1 => ?_) (fun c_1 => ?_)
    · have _ := c_1
      have i_f_2 : Rg (2) (2) (x2) := rg_le2 c_1 (rg_b rfl : Rg (2) (2) ((2 : Int32))) i_x2
      exact s_some ⟨(T), (rg_m (rg_b rfl : Rg (0) (0) ((0 : Int32))) (by decide))⟩
    · have _ := c_1
      have i_f_3 : Rg (0) (1) (x2) := rg_lt1 (nle_lt c_1) i_x2 (rg_b rfl : Rg (2) (2) ((2 : Int32)))
      refine s_br (fun c_4 => ?_) (fun c_4 => ?_)
      · have _ := c_4
        have i_f_5 : Rg (0) (0) (x2) := rg_eq c_4 (rg_b rfl : Rg (0) (0) (0 : Int32))
        exact zX15_early_240 hF @hk_218 (pmA_s hA rfl) o_x1 T r_x0 r_x1 (rg_m i_f_5 (by decide)) (thI T r_x1 (k := 13) (i := 1) rfl : Rg (0) (1) ((hI h x1 1))) hc_218
      · have _ := c_4
        have i_f_6 : Rg (1) (1) (x2) := rg_nlo c_4 i_f_3 (rg_b rfl : Rg (0) (0) (0 : Int32))
        exact zX15_early_240 hF @hk_218 (pmA_s hA rfl) o_x1 T r_x0 r_x1 (rg_m i_f_6 (by decide)) (rg_sub (rg_b rfl : Rg (1) (1) ((1 : Int32))) (thI T r_x1 (k := 13) (i := 1) rfl : Rg (0) (1) ((hI h x1 1))) (by decide) : Rg (0) (1) (((1 : Int32) - (hI h x1 1)))) hc_218
set_option maxRecDepth 20000 in
theorem zX15_early_154 {ρ : Nat → Nat} {c : Cm} {F : Nat} {w_x1 : Nat} (hF : 700000 ≤ F) (hA : pmA c [(16, 29)]) : ∀ (f : Nat) {h : Hp} {x0 : Nat} {x1 : Nat} {x2 : Int32}, cw c x1 = w_x1 → TH ρ c h → ρ x0 = 16 → ρ x1 = 13 → Rg (0) (2) (x2) → (2 - x2.toInt).toNat < f → Sat (sX15_early_154 F f h x0 x1 x2) (ZI ρ c (0) (4)) := by
  intro f
  induction f with
  | zero => intros; omega
  | succ f ih =>
    intro h x0 x1 x2 o_x1 T r_x0 r_x1 i_x2 hm
    rw [sX15_early_154]
    unfold sX15_early_216
    obtain ⟨C_154, hC_154⟩ : ∃ C : Int, C = x2.toInt := ⟨_, rfl⟩
    have hk_154 : ∀ {h : Hp} {x0 : Nat} {x1 : Nat} {x2 : Int32}, cw c x1 = w_x1 → TH ρ c h → ρ x0 = 16 → ρ x1 = 13 → Rg (0) (2) (x2) → C_154 < x2.toInt → Sat (sX15_early_154 F f h x0 x1 x2) (ZI ρ c (0) (4)) := by
      intro h' x0' x1' x2' o_x1' T' r_x0' r_x1' i_x2' hl
      exact ih o_x1' T' r_x0' r_x1' i_x2' (by have := i_x2'.1; have := i_x2'.2; omega)
    have hc_154 : C_154 ≤ x2.toInt := by omega
    refine s_br (fun c_1 => ?_) (fun c_1 => ?_)
    · have _ := c_1
      have i_f_2 : Rg (2) (2) (x2) := rg_le2 c_1 (rg_b rfl : Rg (2) (2) ((2 : Int32))) i_x2
      have m_3 : Rg (0) (2) ((0 : Int32)) := (rg_m (rg_b rfl : Rg (0) (0) ((0 : Int32))) (by decide))
      exact zX15_early_218 hF (pmA_s hA rfl) F o_x1 T r_x0 r_x1 (rg_m (rg_b rfl : Rg (0) (0) ((0 : Int32))) (by decide)) (by have := m_3.1; have := m_3.2; omega)
    · have _ := c_1
      have i_f_4 : Rg (0) (1) (x2) := rg_lt1 (nle_lt c_1) i_x2 (rg_b rfl : Rg (2) (2) ((2 : Int32)))
      obtain ⟨r_2, e_r_2, q_r_2⟩ := thR T r_x0 (k := 16) (i := 4) (k2 := 15) rfl (by decide)
      refine s_ref e_r_2 ?_
      refine s_br (fun c_5 => ?_) (fun c_5 => ?_)
      · have _ := c_5
        have i_f_6 : Rg (0) (0) ((hI h r_2 20)) := rg_le1 c_5 (thI T q_r_2 (k := 15) (i := 20) rfl : Rg (0) (9) ((hI h r_2 20))) (rg_b rfl : Rg (0) (0) (0 : Int32))
        have m_7 : Rg (0) (2) ((0 : Int32)) := (rg_m (rg_b rfl : Rg (0) (0) ((0 : Int32))) (by decide))
        exact zX15_early_218 hF (pmA_s hA rfl) F o_x1 T r_x0 r_x1 (rg_m (rg_b rfl : Rg (0) (0) ((0 : Int32))) (by decide)) (by have := m_7.1; have := m_7.2; omega)
      · have _ := c_5
        have i_f_8 : Rg (1) (9) ((hI h r_2 20)) := rg_lt2 (nle_lt c_5) (rg_b rfl : Rg (0) (0) (0 : Int32)) (thI T q_r_2 (k := 15) (i := 20) rfl : Rg (0) (9) ((hI h r_2 20)))
        refine s_br (fun c_9 => ?_) (fun c_9 => ?_)
        · have _ := c_9
          have i_f_10 : Rg (0) (0) (x2) := rg_eq c_9 (rg_b rfl : Rg (0) (0) (0 : Int32))
          exact zX15_early_186 hF @hk_154 (pmA_s hA rfl) o_x1 T r_x0 r_x1 (rg_m i_f_10 (by decide)) (rg_sub (rg_b rfl : Rg (1) (1) ((1 : Int32))) (thI T r_x1 (k := 13) (i := 1) rfl : Rg (0) (1) ((hI h x1 1))) (by decide) : Rg (0) (1) (((1 : Int32) - (hI h x1 1)))) hc_154
        · have _ := c_9
          have i_f_11 : Rg (1) (1) (x2) := rg_nlo c_9 i_f_4 (rg_b rfl : Rg (0) (0) (0 : Int32))
          exact zX15_early_186 hF @hk_154 (pmA_s hA rfl) o_x1 T r_x0 r_x1 (rg_m i_f_11 (by decide)) (thI T r_x1 (k := 13) (i := 1) rfl : Rg (0) (1) ((hI h x1 1))) hc_154
set_option maxRecDepth 20000 in
theorem zX15_early_73 {ρ : Nat → Nat} {c : Cm} {F : Nat} {w_x1 : Nat} (hF : 700000 ≤ F) (hA : pmA c [(16, 29)]) : ∀ (f : Nat) {h : Hp} {x0 : Nat} {x1 : Nat} {x2 : Int32}, cw c x1 = w_x1 → TH ρ c h → ρ x0 = 16 → ρ x1 = 13 → Rg (0) (2) (x2) → (2 - x2.toInt).toNat < f → Sat (sX15_early_73 F f h x0 x1 x2) (ZI ρ c (0) (4)) := by
  intro f
  induction f with
  | zero => intros; omega
  | succ f ih =>
    intro h x0 x1 x2 o_x1 T r_x0 r_x1 i_x2 hm
    rw [sX15_early_73]
    unfold sX15_early_152
    obtain ⟨C_73, hC_73⟩ : ∃ C : Int, C = x2.toInt := ⟨_, rfl⟩
    have hk_73 : ∀ {h : Hp} {x0 : Nat} {x1 : Nat} {x2 : Int32}, cw c x1 = w_x1 → TH ρ c h → ρ x0 = 16 → ρ x1 = 13 → Rg (0) (2) (x2) → C_73 < x2.toInt → Sat (sX15_early_73 F f h x0 x1 x2) (ZI ρ c (0) (4)) := by
      intro h' x0' x1' x2' o_x1' T' r_x0' r_x1' i_x2' hl
      exact ih o_x1' T' r_x0' r_x1' i_x2' (by have := i_x2'.1; have := i_x2'.2; omega)
    have hc_73 : C_73 ≤ x2.toInt := by omega
    refine s_br (fun c_1 => ?_) (fun c_1 => ?_)
    · have _ := c_1
      have i_f_2 : Rg (2) (2) (x2) := rg_le2 c_1 (rg_b rfl : Rg (2) (2) ((2 : Int32))) i_x2
      have m_3 : Rg (0) (2) ((0 : Int32)) := (rg_m (rg_b rfl : Rg (0) (0) ((0 : Int32))) (by decide))
      exact zX15_early_154 hF (pmA_s hA rfl) F o_x1 T r_x0 r_x1 (rg_m (rg_b rfl : Rg (0) (0) ((0 : Int32))) (by decide)) (by have := m_3.1; have := m_3.2; omega)
    · have _ := c_1
      have i_f_4 : Rg (0) (1) (x2) := rg_lt1 (nle_lt c_1) i_x2 (rg_b rfl : Rg (2) (2) ((2 : Int32)))
      obtain ⟨r_2, e_r_2, q_r_2⟩ := thR T r_x0 (k := 16) (i := 4) (k2 := 15) rfl (by decide)
      refine s_ref e_r_2 ?_
      refine s_br (fun c_5 => ?_) (fun c_5 => ?_)
      · have _ := c_5
        have m_6 : Rg (0) (2) ((0 : Int32)) := (rg_m (rg_b rfl : Rg (0) (0) ((0 : Int32))) (by decide))
        exact zX15_early_154 hF (pmA_s hA rfl) F o_x1 T r_x0 r_x1 (rg_m (rg_b rfl : Rg (0) (0) ((0 : Int32))) (by decide)) (by have := m_6.1; have := m_6.2; omega)
      · have _ := c_5
        refine s_br (fun c_7 => ?_) (fun c_7 => ?_)
        · have _ := c_7
          have i_f_8 : Rg (0) (0) (x2) := rg_eq c_7 (rg_b rfl : Rg (0) (0) (0 : Int32))
          exact zX15_early_107 hF @hk_73 (pmA_s hA rfl) o_x1 T r_x0 r_x1 (rg_m i_f_8 (by decide)) (rg_sub (rg_b rfl : Rg (1) (1) ((1 : Int32))) (thI T r_x1 (k := 13) (i := 1) rfl : Rg (0) (1) ((hI h x1 1))) (by decide) : Rg (0) (1) (((1 : Int32) - (hI h x1 1)))) hc_73
        · have _ := c_7
          have i_f_9 : Rg (1) (1) (x2) := rg_nlo c_7 i_f_4 (rg_b rfl : Rg (0) (0) (0 : Int32))
          exact zX15_early_107 hF @hk_73 (pmA_s hA rfl) o_x1 T r_x0 r_x1 (rg_m i_f_9 (by decide)) (thI T r_x1 (k := 13) (i := 1) rfl : Rg (0) (1) ((hI h x1 1))) hc_73
set_option maxRecDepth 20000 in
theorem zX15_early_2 {ρ : Nat → Nat} {c : Cm} {F : Nat} {w_x1 : Nat} (hF : 700000 ≤ F) (hA : pmA c [(16, 29)]) : ∀ (f : Nat) {h : Hp} {x0 : Nat} {x1 : Nat} {x2 : Int32}, cw c x1 = w_x1 → TH ρ c h → ρ x0 = 16 → ρ x1 = 13 → Rg (0) (2) (x2) → (2 - x2.toInt).toNat < f → Sat (sX15_early_2 F f h x0 x1 x2) (ZI ρ c (0) (4)) := by
  intro f
  induction f with
  | zero => intros; omega
  | succ f ih =>
    intro h x0 x1 x2 o_x1 T r_x0 r_x1 i_x2 hm
    rw [sX15_early_2]
    unfold sX15_early_71
    obtain ⟨C_2, hC_2⟩ : ∃ C : Int, C = x2.toInt := ⟨_, rfl⟩
    have hk_2 : ∀ {h : Hp} {x0 : Nat} {x1 : Nat} {x2 : Int32}, cw c x1 = w_x1 → TH ρ c h → ρ x0 = 16 → ρ x1 = 13 → Rg (0) (2) (x2) → C_2 < x2.toInt → Sat (sX15_early_2 F f h x0 x1 x2) (ZI ρ c (0) (4)) := by
      intro h' x0' x1' x2' o_x1' T' r_x0' r_x1' i_x2' hl
      exact ih o_x1' T' r_x0' r_x1' i_x2' (by have := i_x2'.1; have := i_x2'.2; omega)
    have hc_2 : C_2 ≤ x2.toInt := by omega
    refine s_br (fun c_1 => ?_) (fun c_1 => ?_)
    · have _ := c_1
      have i_f_2 : Rg (2) (2) (x2) := rg_le2 c_1 (rg_b rfl : Rg (2) (2) ((2 : Int32))) i_x2
      have m_3 : Rg (0) (2) ((0 : Int32)) := (rg_m (rg_b rfl : Rg (0) (0) ((0 : Int32))) (by decide))
      exact zX15_early_73 hF (pmA_s hA rfl) F o_x1 T r_x0 r_x1 (rg_m (rg_b rfl : Rg (0) (0) ((0 : Int32))) (by decide)) (by have := m_3.1; have := m_3.2; omega)
    · have _ := c_1
      have i_f_4 : Rg (0) (1) (x2) := rg_lt1 (nle_lt c_1) i_x2 (rg_b rfl : Rg (2) (2) ((2 : Int32)))
      obtain ⟨r_2, e_r_2, q_r_2⟩ := thR T r_x0 (k := 16) (i := 4) (k2 := 15) rfl (by decide)
      refine s_ref e_r_2 ?_
      refine s_br (fun c_5 => ?_) (fun c_5 => ?_)
      · have _ := c_5
        have i_f_6 : Rg (0) (0) ((hI h r_2 18)) := rg_eq c_5 (rg_b rfl : Rg (0) (0) (0 : Int32))
        have m_7 : Rg (0) (2) ((0 : Int32)) := (rg_m (rg_b rfl : Rg (0) (0) ((0 : Int32))) (by decide))
        exact zX15_early_73 hF (pmA_s hA rfl) F o_x1 T r_x0 r_x1 (rg_m (rg_b rfl : Rg (0) (0) ((0 : Int32))) (by decide)) (by have := m_7.1; have := m_7.2; omega)
      · have _ := c_5
        have i_f_8 : Rg (1) (1) ((hI h r_2 18)) := rg_nlo c_5 (thI T q_r_2 (k := 15) (i := 18) rfl : Rg (0) (1) ((hI h r_2 18))) (rg_b rfl : Rg (0) (0) (0 : Int32))
        refine s_ref e_r_2 ?_
        refine s_br (fun c_9 => ?_) (fun c_9 => ?_)
        · have _ := c_9
          have i_f_10 : Rg (-1) (-1) ((hI h r_2 10)) := rg_eq c_9 (rg_b rfl : Rg (-1) (-1) ((- 1 : Int32)))
          have m_11 : Rg (0) (2) ((0 : Int32)) := (rg_m (rg_b rfl : Rg (0) (0) ((0 : Int32))) (by decide))
          exact zX15_early_73 hF (pmA_s hA rfl) F o_x1 T r_x0 r_x1 (rg_m (rg_b rfl : Rg (0) (0) ((0 : Int32))) (by decide)) (by have := m_11.1; have := m_11.2; omega)
        · have _ := c_9
          have i_f_12 : Rg (0) (11) ((hI h r_2 10)) := rg_nlo c_9 (thI T q_r_2 (k := 15) (i := 10) rfl : Rg (-1) (11) ((hI h r_2 10))) (rg_b rfl : Rg (-1) (-1) ((- 1 : Int32)))
          refine s_br (fun c_13 => ?_) (fun c_13 => ?_)
          · have _ := c_13
            have i_f_14 : Rg (0) (0) (x2) := rg_eq c_13 (rg_b rfl : Rg (0) (0) (0 : Int32))
            exact zX15_early_45 hF @hk_2 (pmA_s hA rfl) o_x1 T r_x0 r_x1 (rg_m i_f_14 (by decide)) (thI T r_x1 (k := 13) (i := 1) rfl : Rg (0) (1) ((hI h x1 1))) hc_2
          · have _ := c_13
            have i_f_15 : Rg (1) (1) (x2) := rg_nlo c_13 i_f_4 (rg_b rfl : Rg (0) (0) (0 : Int32))
            exact zX15_early_45 hF @hk_2 (pmA_s hA rfl) o_x1 T r_x0 r_x1 (rg_m i_f_15 (by decide)) (rg_sub (rg_b rfl : Rg (1) (1) ((1 : Int32))) (thI T r_x1 (k := 13) (i := 1) rfl : Rg (0) (1) ((hI h x1 1))) (by decide) : Rg (0) (1) (((1 : Int32) - (hI h x1 1)))) hc_2
set_option maxRecDepth 20000 in
theorem zX15_early {ρ : Nat → Nat} {c : Cm} {F : Nat} {w_x1 : Nat} (hF : 700000 ≤ F) (hA : pmA c [(16, 29)]) {h : Hp} {x0 : Nat} {x1 : Nat} (o_x1 : cw c x1 = w_x1) (T : TH ρ c h) (r_x0 : ρ x0 = 16) (r_x1 : ρ x1 = 13) : Sat (sX15_early F h x0 x1) (ZI ρ c (0) (4)) := by
  unfold sX15_early 
  have m_1 : Rg (0) (2) ((0 : Int32)) := (rg_m (rg_b rfl : Rg (0) (0) ((0 : Int32))) (by decide))
  exact zX15_early_2 hF (pmA_s hA rfl) F o_x1 T r_x0 r_x1 (rg_m (rg_b rfl : Rg (0) (0) ((0 : Int32))) (by decide)) (by have := m_1.1; have := m_1.2; omega)
set_option maxRecDepth 20000 in
theorem zX15_hasVector_170 {ρ : Nat → Nat} {c : Cm} {F : Nat} (hF : 700000 ≤ F) {h : Hp} {x4 : Int32} {x5 : Int32} {x6 : Int32} (T : TH ρ c h) (i_x4 : Rg (-7) (7) (x4)) (i_x5 : Rg (-7) (7) (x5)) (i_x6 : Rg (0) (1) (x6)) : Sat (sX15_hasVector_170 h x4 x5 x6) (ZI ρ c (0) (1)) := by
  unfold sX15_hasVector_170 sX15_hasVector_188 sX15_hasVector_193 sX15_hasVector_192
  refine s_br (fun c_1 => ?_) (fun c_1 => ?_)
  · have _ := c_1
    have i_f_2 : Rg (0) (0) (x6) := rg_eq c_1 (rg_b rfl : Rg (0) (0) (0 : Int32))
    refine s_gd (rg_bool (rg_m (rg_b rfl : Rg (1) (1) ((1 : Int32))) (by decide))) ?_
    exact s_some ⟨(T), (rg_m (rg_b rfl : Rg (1) (1) ((1 : Int32))) (by decide))⟩
  · have _ := c_1
    have i_f_3 : Rg (1) (1) (x6) := rg_nlo c_1 i_x6 (rg_b rfl : Rg (0) (0) (0 : Int32))
    refine s_br (fun c_4 => ?_) (fun c_4 => ?_)
    · have _ := c_4
      refine s_gd (rg_bool (rg_m (rg_b rfl : Rg (0) (0) ((0 : Int32))) (by decide))) ?_
      exact s_some ⟨(T), (rg_m (rg_b rfl : Rg (0) (0) ((0 : Int32))) (by decide))⟩
    · have _ := c_4
      refine s_gd (rg_bool (rg_m (rg_b rfl : Rg (1) (1) ((1 : Int32))) (by decide))) ?_
      exact s_some ⟨(T), (rg_m (rg_b rfl : Rg (1) (1) ((1 : Int32))) (by decide))⟩
set_option maxRecDepth 20000 in
theorem zX15_hasVector_145 {ρ : Nat → Nat} {c : Cm} {F : Nat} (hF : 700000 ≤ F) (hA : pmA c [(16, 24)]) {h : Hp} {x2 : Int32} {x4 : Int32} {x5 : Int32} {x6 : Int32} {x7 : Int32} {x8 : Int32} {t0 : Int32} {t1 : Nat} (T : TH ρ c h) (i_x2 : Rg (0) (7) (x2)) (i_x4 : Rg (-7) (7) (x4)) (i_x5 : Rg (-7) (7) (x5)) (i_x6 : Rg (0) (1) (x6)) (i_x7 : Rg (-7) (7) (x7)) (i_x8 : Rg (-7) (7) (x8)) (i_t0 : Rg (-7) (7) (t0)) (r_t1 : ρ t1 = 16) : Sat (sX15_hasVector_145 h x2 x4 x5 x6 x7 x8 t0 t1) (ZI ρ c (0) (1)) := by
  unfold sX15_hasVector_145 sX15_hasVector_159 sX15_hasVector_192 sX15_hasVector_193
  refine s_hq (th_wI T r_t1 (k := 16) (lo := (-7)) (hi := (7)) rfl (i_t0 : Rg (-7) (7) (t0)) (by decide) (by decide) (pm_a hA rfl)) (fun h_1 T_1 w_2 => ?_)
  refine s_br (fun c_3 => ?_) (fun c_3 => ?_)
  · have _ := c_3
    have i_f_4 : Rg (0) (0) ((x2 &&& (1 : Int32))) := rg_eq c_3 (rg_b rfl : Rg (0) (0) (0 : Int32))
    refine s_br (fun c_5 => ?_) (fun c_5 => ?_)
    · have _ := c_5
      have i_f_6 : Rg (0) (0) ((x2 &&& (2 : Int32))) := rg_eq c_5 (rg_b rfl : Rg (0) (0) (0 : Int32))
      exact zX15_hasVector_170 hF T_1 i_x4 i_x5 i_x6
    · have _ := c_5
      have i_f_7 : Rg (1) (2) ((x2 &&& (2 : Int32))) := rg_nlo c_5 (rg_and (rg_b rfl : Rg (2) (2) ((2 : Int32))) (by decide) : Rg (0) (2) ((x2 &&& (2 : Int32)))) (rg_b rfl : Rg (0) (0) (0 : Int32))
      refine s_br (fun c_8 => ?_) (fun c_8 => ?_)
      · have _ := c_8
        have i_f_9 : Rg (0) (0) (x8) := rg_eq c_8 (rg_b rfl : Rg (0) (0) (0 : Int32))
        refine s_gd (rg_bool (rg_m (rg_b rfl : Rg (0) (0) ((0 : Int32))) (by decide))) ?_
        exact s_some ⟨(T_1), (rg_m (rg_b rfl : Rg (0) (0) ((0 : Int32))) (by decide))⟩
      · have _ := c_8
        exact zX15_hasVector_170 hF T_1 i_x4 i_x5 i_x6
  · have _ := c_3
    have i_f_10 : Rg (1) (1) ((x2 &&& (1 : Int32))) := rg_nlo c_3 (rg_and (rg_b rfl : Rg (1) (1) ((1 : Int32))) (by decide) : Rg (0) (1) ((x2 &&& (1 : Int32)))) (rg_b rfl : Rg (0) (0) (0 : Int32))
    refine s_br (fun c_11 => ?_) (fun c_11 => ?_)
    · have _ := c_11
      have i_f_12 : Rg (0) (0) (x7) := rg_eq c_11 (rg_b rfl : Rg (0) (0) (0 : Int32))
      refine s_gd (rg_bool (rg_m (rg_b rfl : Rg (0) (0) ((0 : Int32))) (by decide))) ?_
      exact s_some ⟨(T_1), (rg_m (rg_b rfl : Rg (0) (0) ((0 : Int32))) (by decide))⟩
    · have _ := c_11
      refine s_br (fun c_13 => ?_) (fun c_13 => ?_)
      · have _ := c_13
        have i_f_14 : Rg (0) (0) ((x2 &&& (2 : Int32))) := rg_eq c_13 (rg_b rfl : Rg (0) (0) (0 : Int32))
        exact zX15_hasVector_170 hF T_1 i_x4 i_x5 i_x6
      · have _ := c_13
        have i_f_15 : Rg (1) (2) ((x2 &&& (2 : Int32))) := rg_nlo c_13 (rg_and (rg_b rfl : Rg (2) (2) ((2 : Int32))) (by decide) : Rg (0) (2) ((x2 &&& (2 : Int32)))) (rg_b rfl : Rg (0) (0) (0 : Int32))
        refine s_br (fun c_16 => ?_) (fun c_16 => ?_)
        · have _ := c_16
          have i_f_17 : Rg (0) (0) (x8) := rg_eq c_16 (rg_b rfl : Rg (0) (0) (0 : Int32))
          refine s_gd (rg_bool (rg_m (rg_b rfl : Rg (0) (0) ((0 : Int32))) (by decide))) ?_
          exact s_some ⟨(T_1), (rg_m (rg_b rfl : Rg (0) (0) ((0 : Int32))) (by decide))⟩
        · have _ := c_16
          exact zX15_hasVector_170 hF T_1 i_x4 i_x5 i_x6
set_option maxRecDepth 20000 in
theorem zX15_hasVector_126 {ρ : Nat → Nat} {c : Cm} {F : Nat} (hF : 700000 ≤ F) (hA : pmA c [(16, 23), (16, 24)]) {h : Hp} {x0 : Nat} {x2 : Int32} {x4 : Int32} {x5 : Int32} {x6 : Int32} {x7 : Int32} {x8 : Int32} {t0 : Int32} {t1 : Nat} (T : TH ρ c h) (r_x0 : ρ x0 = 16) (i_x2 : Rg (0) (7) (x2)) (i_x4 : Rg (-7) (7) (x4)) (i_x5 : Rg (-7) (7) (x5)) (i_x6 : Rg (0) (1) (x6)) (i_x7 : Rg (-7) (7) (x7)) (i_x8 : Rg (-7) (7) (x8)) (i_t0 : Rg (-7) (7) (t0)) (r_t1 : ρ t1 = 16) : Sat (sX15_hasVector_126 h x0 x2 x4 x5 x6 x7 x8 t0 t1) (ZI ρ c (0) (1)) := by
  unfold sX15_hasVector_126 
  refine s_hq (th_wI T r_t1 (k := 16) (lo := (-7)) (hi := (7)) rfl (i_t0 : Rg (-7) (7) (t0)) (by decide) (by decide) (pm_a hA rfl)) (fun h_1 T_1 w_2 => ?_)
  refine s_br (fun c_3 => ?_) (fun c_3 => ?_)
  · have _ := c_3
    have i_f_4 : Rg (0) (0) ((x2 &&& (2 : Int32))) := rg_eq c_3 (rg_b rfl : Rg (0) (0) (0 : Int32))
    exact zX15_hasVector_145 hF (pmA_s hA rfl) T_1 i_x2 i_x4 i_x5 i_x6 i_x7 i_x8 i_x8 r_x0
  · have _ := c_3
    have i_f_5 : Rg (1) (2) ((x2 &&& (2 : Int32))) := rg_nlo c_3 (rg_and (rg_b rfl : Rg (2) (2) ((2 : Int32))) (by decide) : Rg (0) (2) ((x2 &&& (2 : Int32)))) (rg_b rfl : Rg (0) (0) (0 : Int32))
    exact zX15_hasVector_145 hF (pmA_s hA rfl) T_1 i_x2 i_x4 i_x5 i_x6 i_x7 i_x8 (rg_sub (rg_b rfl : Rg (0) (0) ((0 : Int32))) i_x8 (by decide) : Rg (-7) (7) (((0 : Int32) - x8))) r_x0
set_option maxRecDepth 20000 in
theorem zX15_hasVector_108 {ρ : Nat → Nat} {c : Cm} {F : Nat} (hF : 700000 ≤ F) (hA : pmA c [(16, 23), (16, 24)]) {h : Hp} {x0 : Nat} {x2 : Int32} {x4 : Int32} {x5 : Int32} {x6 : Int32} {x7 : Int32} {t0 : Int32} (T : TH ρ c h) (r_x0 : ρ x0 = 16) (i_x2 : Rg (0) (7) (x2)) (i_x4 : Rg (-7) (7) (x4)) (i_x5 : Rg (-7) (7) (x5)) (i_x6 : Rg (0) (1) (x6)) (i_x7 : Rg (-7) (7) (x7)) (i_t0 : Rg (-7) (7) (t0)) : Sat (sX15_hasVector_108 h x0 x2 x4 x5 x6 x7 t0) (ZI ρ c (0) (1)) := by
  unfold sX15_hasVector_108 
  refine s_br (fun c_1 => ?_) (fun c_1 => ?_)
  · have _ := c_1
    have i_f_2 : Rg (0) (0) ((x2 &&& (1 : Int32))) := rg_eq c_1 (rg_b rfl : Rg (0) (0) (0 : Int32))
    exact zX15_hasVector_126 hF (pmA_s hA rfl) T r_x0 i_x2 i_x4 i_x5 i_x6 i_x7 i_t0 i_x7 r_x0
  · have _ := c_1
    have i_f_3 : Rg (1) (1) ((x2 &&& (1 : Int32))) := rg_nlo c_1 (rg_and (rg_b rfl : Rg (1) (1) ((1 : Int32))) (by decide) : Rg (0) (1) ((x2 &&& (1 : Int32)))) (rg_b rfl : Rg (0) (0) (0 : Int32))
    exact zX15_hasVector_126 hF (pmA_s hA rfl) T r_x0 i_x2 i_x4 i_x5 i_x6 i_x7 i_t0 (rg_sub (rg_b rfl : Rg (0) (0) ((0 : Int32))) i_x7 (by decide) : Rg (-7) (7) (((0 : Int32) - x7))) r_x0
set_option maxRecDepth 20000 in
theorem zX15_hasVector {ρ : Nat → Nat} {c : Cm} {F : Nat} (hF : 700000 ≤ F) (hA : pmA c [(16, 23), (16, 24)]) {h : Hp} {x0 : Nat} {x1 : Int32} {x2 : Int32} {x3 : Int32} (T : TH ρ c h) (r_x0 : ρ x0 = 16) (i_x1 : Rg (0) (95) (x1)) (i_x2 : Rg (0) (7) (x2)) (i_x3 : Rg (0) (1) (x3)) : Sat (sX15_hasVector h x0 x1 x2 x3) (ZI ρ c (0) (1)) := by
  unfold sX15_hasVector sX15_hasVector_80 sX15_hasVector_94 sX15_hasVector_56 sX15_hasVector_68
  obtain ⟨r_1, e_r_1, q_r_1⟩ := thR T r_x0 (k := 16) (i := 4) (k2 := 15) rfl (by decide)
  refine s_ref e_r_1 ?_
  obtain ⟨r_2, e_r_2, q_r_2⟩ := thR T q_r_1 (k := 15) (i := 6) (k2 := 76) rfl (by decide)
  refine s_ref e_r_2 ?_
  refine s_gd (by rw [thN T q_r_2 (k := 76) (n := 96) rfl (by decide)]; exact rg_inB (i_x1 : Rg (0) (95) (x1)) (by decide)) ?_
  refine s_q (fun v_4 e_1 => ?_)
  have i_v_4 : Rg (-7) (7) (v_4) := by rw [e_1]; exact (thI T q_r_2 (k := 76) rfl : Rg (-7) (7) (hI h r_2 x1.toNatClampNeg))
  refine s_ref e_r_1 ?_
  obtain ⟨r_6, e_r_6, q_r_6⟩ := thR T q_r_1 (k := 15) (i := 7) (k2 := 77) rfl (by decide)
  refine s_ref e_r_6 ?_
  refine s_gd (by rw [thN T q_r_6 (k := 77) (n := 96) rfl (by decide)]; exact rg_inB (i_x1 : Rg (0) (95) (x1)) (by decide)) ?_
  refine s_q (fun v_8 e_2 => ?_)
  have i_v_8 : Rg (-7) (7) (v_8) := by rw [e_2]; exact (thI T q_r_6 (k := 77) rfl : Rg (-7) (7) (hI h r_6 x1.toNatClampNeg))
  refine s_ref e_r_1 ?_
  obtain ⟨r_10, e_r_10, q_r_10⟩ := thR T q_r_1 (k := 15) (i := 5) (k2 := 75) rfl (by decide)
  refine s_ref e_r_10 ?_
  refine s_gd (by rw [thN T q_r_10 (k := 75) (n := 96) rfl (by decide)]; exact rg_inB (i_x1 : Rg (0) (95) (x1)) (by decide)) ?_
  refine s_br (fun c_3 => ?_) (fun c_3 => ?_)
  · have _ := c_3
    have i_f_4 : Rg (0) (0) (((hI h r_10 x1.toNatClampNeg) &&& (4 : Int32))) := rg_eq c_3 (rg_b rfl : Rg (0) (0) (0 : Int32))
    refine s_br (fun c_5 => ?_) (fun c_5 => ?_)
    · have _ := c_5
      have i_f_6 : Rg (0) (0) ((x2 &&& (4 : Int32))) := rg_eq c_5 (rg_b rfl : Rg (0) (0) (0 : Int32))
      refine s_br (fun c_7 => ?_) (fun c_7 => ?_)
      · have _ := c_7
        refine s_br (fun c_8 => ?_) (fun c_8 => ?_)
        · have _ := c_8
          exact zX15_hasVector_108 hF (pmA_s hA rfl) T r_x0 i_x2 i_v_4 i_v_8 (rg_m (rg_b rfl : Rg (0) (0) ((0 : Int32))) (by decide)) i_v_4 i_v_8
        · have _ := c_8
          exact (rc_ne c_8 (rg_b rfl : Rg (0) (0) ((0 : Int32))) (rg_b rfl : Rg (0) (0) (0 : Int32))).elim
      · have _ := c_7
        exact (rc_ne c_7 (rg_b rfl : Rg (0) (0) ((0 : Int32))) (rg_b rfl : Rg (0) (0) (0 : Int32))).elim
    · have _ := c_5
      have i_f_9 : Rg (1) (4) ((x2 &&& (4 : Int32))) := rg_nlo c_5 (rg_and (rg_b rfl : Rg (4) (4) ((4 : Int32))) (by decide) : Rg (0) (4) ((x2 &&& (4 : Int32)))) (rg_b rfl : Rg (0) (0) (0 : Int32))
      refine s_br (fun c_10 => ?_) (fun c_10 => ?_)
      · have _ := c_10
        exact (rc_eq c_10 (rg_b rfl : Rg (1) (1) ((1 : Int32))) (rg_b rfl : Rg (0) (0) (0 : Int32)) (by decide)).elim
      · have _ := c_10
        refine s_br (fun c_11 => ?_) (fun c_11 => ?_)
        · have _ := c_11
          exact (rc_eq c_11 (rg_b rfl : Rg (1) (1) ((1 : Int32))) (rg_b rfl : Rg (0) (0) (0 : Int32)) (by decide)).elim
        · have _ := c_11
          exact zX15_hasVector_108 hF (pmA_s hA rfl) T r_x0 i_x2 i_v_4 i_v_8 (rg_m (rg_b rfl : Rg (1) (1) ((1 : Int32))) (by decide)) i_v_8 i_v_4
  · have _ := c_3
    have i_f_12 : Rg (1) (4) (((hI h r_10 x1.toNatClampNeg) &&& (4 : Int32))) := rg_nlo c_3 (rg_and (rg_b rfl : Rg (4) (4) ((4 : Int32))) (by decide) : Rg (0) (4) (((hI h r_10 x1.toNatClampNeg) &&& (4 : Int32)))) (rg_b rfl : Rg (0) (0) (0 : Int32))
    refine s_hq (th_wI T r_x0 (k := 16) (lo := (-7)) (hi := (7)) rfl (i_v_4 : Rg (-7) (7) (v_4)) (by decide) (by decide) (pm_a hA rfl)) (fun h_14 T_13 w_14 => ?_)
    refine s_br (fun c_15 => ?_) (fun c_15 => ?_)
    · have _ := c_15
      have i_f_16 : Rg (0) (0) (x3) := rg_eq c_15 (rg_b rfl : Rg (0) (0) (0 : Int32))
      refine s_hq (th_wI T_13 r_x0 (k := 16) (lo := (-7)) (hi := (7)) rfl (i_v_8 : Rg (-7) (7) (v_8)) (by decide) (by decide) (pm_a hA rfl)) (fun h_1q7 T_17 w_18 => ?_)
      refine s_br (fun c_19 => ?_) (fun c_19 => ?_)
      · have _ := c_19
        have i_f_20 : Rg (0) (0) (x2) := rg_eq c_19 (rg_b rfl : Rg (0) (0) (0 : Int32))
        refine s_gd (rg_bool (rg_m (rg_b rfl : Rg (1) (1) ((1 : Int32))) (by decide))) ?_
        exact s_some ⟨(T_17), (rg_m (rg_b rfl : Rg (1) (1) ((1 : Int32))) (by decide))⟩
      · have _ := c_19
        have i_f_21 : Rg (1) (7) (x2) := rg_nlo c_19 i_x2 (rg_b rfl : Rg (0) (0) (0 : Int32))
        refine s_gd (rg_bool (rg_m (rg_b rfl : Rg (0) (0) ((0 : Int32))) (by decide))) ?_
        exact s_some ⟨(T_17), (rg_m (rg_b rfl : Rg (0) (0) ((0 : Int32))) (by decide))⟩
    · have _ := c_15
      have i_f_22 : Rg (1) (1) (x3) := rg_nlo c_15 i_x3 (rg_b rfl : Rg (0) (0) (0 : Int32))
      refine s_hq (th_wI T_13 r_x0 (k := 16) (lo := (-7)) (hi := (7)) rfl ((rg_sub (rg_b rfl : Rg (0) (0) ((0 : Int32))) i_v_8 (by decide) : Rg (-7) (7) (((0 : Int32) - v_8))) : Rg (-7) (7) (((0 : Int32) - v_8))) (by decide) (by decide) (pm_a hA rfl)) (fun h_1q10 T_23 w_24 => ?_)
      refine s_br (fun c_25 => ?_) (fun c_25 => ?_)
      · have _ := c_25
        have i_f_26 : Rg (0) (0) (x2) := rg_eq c_25 (rg_b rfl : Rg (0) (0) (0 : Int32))
        refine s_gd (rg_bool (rg_m (rg_b rfl : Rg (1) (1) ((1 : Int32))) (by decide))) ?_
        exact s_some ⟨(T_23), (rg_m (rg_b rfl : Rg (1) (1) ((1 : Int32))) (by decide))⟩
      · have _ := c_25
        have i_f_27 : Rg (1) (7) (x2) := rg_nlo c_25 i_x2 (rg_b rfl : Rg (0) (0) (0 : Int32))
        refine s_gd (rg_bool (rg_m (rg_b rfl : Rg (0) (0) ((0 : Int32))) (by decide))) ?_
        exact s_some ⟨(T_23), (rg_m (rg_b rfl : Rg (0) (0) ((0 : Int32))) (by decide))⟩
set_option maxRecDepth 20000 in
theorem zX15_rankFor {ρ : Nat → Nat} {c : Cm} {F : Nat} (hF : 700000 ≤ F) {h : Hp} {x0 : Nat} {x1 : Int32} {x2 : Int32} (T : TH ρ c h) (r_x0 : ρ x0 = 16) (i_x1 : Rg (0) (63) (x1)) (i_x2 : Rg (0) (1) (x2)) : Sat (sX15_rankFor h x0 x1 x2) (ZI0 h (-18) (22)) := by
  unfold sX15_rankFor sX15_rankFor_26
  refine s_br (fun c_1 => ?_) (fun c_1 => ?_)
  · have _ := c_1
    have i_f_2 : Rg (0) (0) (x2) := rg_eq c_1 (rg_b rfl : Rg (0) (0) (0 : Int32))
    refine s_gd (rg_ne0 (thI T r_x0 (k := 16) (i := 11) rfl : Rg (3) (8) ((hI h x0 11))) (by decide)) ?_
    exact s_some ⟨rfl, (rg_m (rg_add (rg_divw i_x1 (thI T r_x0 (k := 16) (i := 11) rfl : Rg (3) (8) ((hI h x0 11))) (by decide) : Rg (0) (21) ((x1 / (hI h x0 11)))) (rg_b rfl : Rg (1) (1) ((1 : Int32))) (by decide) : Rg (1) (22) (((x1 / (hI h x0 11)) + (1 : Int32)))) (by decide))⟩
  · have _ := c_1
    have i_f_3 : Rg (1) (1) (x2) := rg_nlo c_1 i_x2 (rg_b rfl : Rg (0) (0) (0 : Int32))
    refine s_gd (rg_ne0 (thI T r_x0 (k := 16) (i := 11) rfl : Rg (3) (8) ((hI h x0 11))) (by decide)) ?_
    exact s_some ⟨rfl, (rg_m (rg_sub (thI T r_x0 (k := 16) (i := 12) rfl : Rg (3) (8) ((hI h x0 12))) (rg_divw i_x1 (thI T r_x0 (k := 16) (i := 11) rfl : Rg (3) (8) ((hI h x0 11))) (by decide) : Rg (0) (21) ((x1 / (hI h x0 11)))) (by decide) : Rg (-18) (8) (((hI h x0 12) - (x1 / (hI h x0 11))))) (by decide))⟩
set_option maxRecDepth 20000 in
theorem zX15_isFrom {ρ : Nat → Nat} {c : Cm} {F : Nat} (hF : 700000 ≤ F) {h : Hp} {x0 : Nat} {x1 : Int32} {x2 : Int32} {x3 : Int32} (T : TH ρ c h) (r_x0 : ρ x0 = 16) (i_x1 : Rg (0) (95) (x1)) (i_x2 : Rg (0) (63) (x2)) (i_x3 : Rg (0) (1) (x3)) : Sat (sX15_isFrom h x0 x1 x2 x3) (ZI0 h (0) (1)) := by
  unfold sX15_isFrom sX15_isFrom_30 sX15_isFrom_35
  obtain ⟨r_1, e_r_1, q_r_1⟩ := thR T r_x0 (k := 16) (i := 4) (k2 := 15) rfl (by decide)
  refine s_ref e_r_1 ?_
  obtain ⟨r_2, e_r_2, q_r_2⟩ := thR T q_r_1 (k := 15) (i := 9) (k2 := 79) rfl (by decide)
  refine s_ref e_r_2 ?_
  refine s_gd (by rw [thN T q_r_2 (k := 79) (n := 96) rfl (by decide)]; exact rg_inB (i_x1 : Rg (0) (95) (x1)) (by decide)) ?_
  refine s_br (fun c_1 => ?_) (fun c_1 => ?_)
  · have _ := c_1
    have i_f_2 : Rg (0) (0) ((hI h r_2 x1.toNatClampNeg)) := rg_eq c_1 (rg_b rfl : Rg (0) (0) (0 : Int32))
    refine s_gd (rg_bool (rg_m (rg_b rfl : Rg (1) (1) ((1 : Int32))) (by decide))) ?_
    exact s_some ⟨rfl, (rg_m (rg_b rfl : Rg (1) (1) ((1 : Int32))) (by decide))⟩
  · have _ := c_1
    have i_f_3 : Rg (1) (8) ((hI h r_2 x1.toNatClampNeg)) := rg_nlo c_1 (thI T q_r_2 (k := 79) rfl : Rg (0) (8) ((hI h r_2 x1.toNatClampNeg))) (rg_b rfl : Rg (0) (0) (0 : Int32))
    refine s_ref e_r_1 ?_
    refine s_ref e_r_2 ?_
    refine s_gd (by rw [thN T q_r_2 (k := 79) (n := 96) rfl (by decide)]; exact rg_inB (i_x1 : Rg (0) (95) (x1)) (by decide)) ?_
    refine s_dI0 (zX15_rankFor hF T r_x0 i_x2 i_x3) (fun o_8 eb_o_8 e_o_8 i_o_8 => ?_)
    have T_4 := th_eq e_o_8 T
    refine s_br (fun c_5 => ?_) (fun c_5 => ?_)
    · have _ := c_5
      have i_f_6 : Rg (1) (8) (o_8.1) := rg_eq c_5.symm i_f_3
      refine s_gd (rg_bool (rg_m (rg_b rfl : Rg (1) (1) ((1 : Int32))) (by decide))) ?_
      exact s_some ⟨(e_o_8.trans rfl), (rg_m (rg_b rfl : Rg (1) (1) ((1 : Int32))) (by decide))⟩
    · have _ := c_5
      refine s_gd (rg_bool (rg_m (rg_b rfl : Rg (0) (0) ((0 : Int32))) (by decide))) ?_
      exact s_some ⟨(e_o_8.trans rfl), (rg_m (rg_b rfl : Rg (0) (0) ((0 : Int32))) (by decide))⟩
set_option maxRecDepth 20000 in
theorem zX15_isFree {ρ : Nat → Nat} {c : Cm} {F : Nat} (hF : 700000 ≤ F) {h : Hp} {x0 : Int32} {x1 : Int32} (T : TH ρ c h) (i_x0 : Rg (0) (63) (x0)) (i_x1 : Rg (0) (1) (x1)) : Sat (sX15_isFree h x0 x1) (ZI0 h (0) (1)) := by
  unfold sX15_isFree sX15_isFree_29
  refine s_br (fun c_1 => ?_) (fun c_1 => ?_)
  · have _ := c_1
    have i_f_2 : Rg (0) (0) ((x0 &&& (8 : Int32))) := rg_eq c_1 (rg_b rfl : Rg (0) (0) (0 : Int32))
    refine s_br (fun c_3 => ?_) (fun c_3 => ?_)
    · have _ := c_3
      have i_f_4 : Rg (0) (0) (x1) := rg_eq c_3 (rg_b rfl : Rg (0) (0) (0 : Int32))
      refine s_gd (rg_bool (rg_m (rg_b rfl : Rg (1) (1) ((1 : Int32))) (by decide))) ?_
      exact s_some ⟨rfl, (rg_m (rg_b rfl : Rg (1) (1) ((1 : Int32))) (by decide))⟩
    · have _ := c_3
      have i_f_5 : Rg (1) (1) (x1) := rg_nlo c_3 i_x1 (rg_b rfl : Rg (0) (0) (0 : Int32))
      refine s_gd (rg_bool (rg_m (rg_b rfl : Rg (0) (0) ((0 : Int32))) (by decide))) ?_
      exact s_some ⟨rfl, (rg_m (rg_b rfl : Rg (0) (0) ((0 : Int32))) (by decide))⟩
  · have _ := c_1
    have i_f_6 : Rg (1) (8) ((x0 &&& (8 : Int32))) := rg_nlo c_1 (rg_and (rg_b rfl : Rg (8) (8) ((8 : Int32))) (by decide) : Rg (0) (8) ((x0 &&& (8 : Int32)))) (rg_b rfl : Rg (0) (0) (0 : Int32))
    refine s_br (fun c_7 => ?_) (fun c_7 => ?_)
    · have _ := c_7
      have i_f_8 : Rg (1) (1) (x1) := rg_eq c_7 (rg_b rfl : Rg (1) (1) ((1 : Int32)))
      refine s_gd (rg_bool (rg_m (rg_b rfl : Rg (1) (1) ((1 : Int32))) (by decide))) ?_
      exact s_some ⟨rfl, (rg_m (rg_b rfl : Rg (1) (1) ((1 : Int32))) (by decide))⟩
    · have _ := c_7
      have i_f_9 : Rg (0) (0) (x1) := rg_nhi c_7 i_x1 (rg_b rfl : Rg (1) (1) ((1 : Int32)))
      refine s_gd (rg_bool (rg_m (rg_b rfl : Rg (0) (0) ((0 : Int32))) (by decide))) ?_
      exact s_some ⟨rfl, (rg_m (rg_b rfl : Rg (0) (0) ((0 : Int32))) (by decide))⟩
set_option maxRecDepth 20000 in
theorem zX15_onward {ρ : Nat → Nat} {c : Cm} {F : Nat} (hF : 700000 ≤ F) {h : Hp} {x0 : Nat} {x1 : Int32} {x2 : Int32} (T : TH ρ c h) (r_x0 : ρ x0 = 16) (i_x1 : Rg (0) (63) (x1)) (i_x2 : Rg (-7) (7) (x2)) : Sat (sX15_onward h x0 x1 x2) (ZI0 h (-1) (63)) := by
  unfold sX15_onward sX15_onward_55 sX15_onward_68
  refine s_gd (rg_ne0 (thI T r_x0 (k := 16) (i := 11) rfl : Rg (3) (8) ((hI h x0 11))) (by decide)) ?_
  refine s_q (fun v_2 e_1 => ?_)
  have i_v_2 : Rg (-49) (56) (v_2) := by rw [e_1]; exact (rg_add (rg_rem i_x1 (thI T r_x0 (k := 16) (i := 11) rfl : Rg (3) (8) ((hI h x0 11))) (by decide) : Rg (0) (7) ((x1 - x1 / (hI h x0 11) * (hI h x0 11)))) (rg_muln (rg_m i_x2 (by decide) : Rg (-7) (7) (x2)) (rg_m (thI T r_x0 (k := 16) (i := 23) rfl : Rg (-7) (7) ((hI h x0 23))) (by decide) : Rg (-7) (7) ((hI h x0 23))) (by decide) : Rg (-49) (49) ((x2 * (hI h x0 23)))) (by decide) : Rg (-49) (56) ((x1 - x1 / (hI h x0 11) * (hI h x0 11)) + (x2 * (hI h x0 23))))
  refine s_gd (rg_ne0 (thI T r_x0 (k := 16) (i := 11) rfl : Rg (3) (8) ((hI h x0 11))) (by decide)) ?_
  refine s_q (fun v_4 e_2 => ?_)
  have i_v_4 : Rg (-49) (70) (v_4) := by rw [e_2]; exact (rg_add (rg_divw i_x1 (thI T r_x0 (k := 16) (i := 11) rfl : Rg (3) (8) ((hI h x0 11))) (by decide) : Rg (0) (21) ((x1 / (hI h x0 11)))) (rg_muln (rg_m i_x2 (by decide) : Rg (-7) (7) (x2)) (rg_m (thI T r_x0 (k := 16) (i := 24) rfl : Rg (-7) (7) ((hI h x0 24))) (by decide) : Rg (-7) (7) ((hI h x0 24))) (by decide) : Rg (-49) (49) ((x2 * (hI h x0 24)))) (by decide) : Rg (-49) (70) ((x1 / (hI h x0 11)) + (x2 * (hI h x0 24))))
  refine s_br (fun c_3 => ?_) (fun c_3 => ?_)
  · have _ := c_3
    have i_f_4 : Rg (-49) (-1) (v_2) := rg_lt1 c_3 i_v_2 (rg_b rfl : Rg (0) (0) (0 : Int32))
    exact s_some ⟨rfl, (rg_m (rg_b rfl : Rg (-1) (-1) ((- 1 : Int32))) (by decide))⟩
  · have _ := c_3
    have i_f_5 : Rg (0) (56) (v_2) := rg_le2 (nlt_le c_3) (rg_b rfl : Rg (0) (0) (0 : Int32)) i_v_2
    refine s_br (fun c_6 => ?_) (fun c_6 => ?_)
    · have _ := c_6
      have i_f_7 : Rg (3) (56) (v_2) := rg_le2 c_6 (thI T r_x0 (k := 16) (i := 11) rfl : Rg (3) (8) ((hI h x0 11))) i_f_5
      exact s_some ⟨rfl, (rg_m (rg_b rfl : Rg (-1) (-1) ((- 1 : Int32))) (by decide))⟩
    · have _ := c_6
      have i_f_8 : Rg (0) (7) (v_2) := rg_lt1 (nle_lt c_6) i_f_5 (thI T r_x0 (k := 16) (i := 11) rfl : Rg (3) (8) ((hI h x0 11)))
      refine s_br (fun c_9 => ?_) (fun c_9 => ?_)
      · have _ := c_9
        have i_f_10 : Rg (-49) (-1) (v_4) := rg_lt1 c_9 i_v_4 (rg_b rfl : Rg (0) (0) (0 : Int32))
        exact s_some ⟨rfl, (rg_m (rg_b rfl : Rg (-1) (-1) ((- 1 : Int32))) (by decide))⟩
      · have _ := c_9
        have i_f_11 : Rg (0) (70) (v_4) := rg_le2 (nlt_le c_9) (rg_b rfl : Rg (0) (0) (0 : Int32)) i_v_4
        refine s_br (fun c_12 => ?_) (fun c_12 => ?_)
        · have _ := c_12
          have i_f_13 : Rg (0) (7) (v_4) := rg_lt1 c_12 i_f_11 (thI T r_x0 (k := 16) (i := 12) rfl : Rg (3) (8) ((hI h x0 12)))
          exact s_some ⟨rfl, (rg_m (rg_add (rg_mul i_f_13 (thI T r_x0 (k := 16) (i := 11) rfl : Rg (3) (8) ((hI h x0 11))) (by decide) : Rg (0) (56) ((v_4 * (hI h x0 11)))) i_f_8 (by decide) : Rg (0) (63) (((v_4 * (hI h x0 11)) + v_2))) (by decide))⟩
        · have _ := c_12
          have i_f_14 : Rg (3) (70) (v_4) := rg_le2 (nlt_le c_12) (thI T r_x0 (k := 16) (i := 12) rfl : Rg (3) (8) ((hI h x0 12))) i_f_11
          exact s_some ⟨rfl, (rg_m (rg_b rfl : Rg (-1) (-1) ((- 1 : Int32))) (by decide))⟩
set_option maxRecDepth 20000 in
theorem zX15_reaches_6 {ρ : Nat → Nat} {c : Cm} {h0 : Hp} {F : Nat} (hF : 700000 ≤ F) : ∀ (f : Nat) {h : Hp} {x0 : Nat} {x1 : Nat} {x2 : Int32} {x3 : Int32} {x4 : Int32} {x5 : Int32} {x6 : Int32}, h = h0 → TH ρ c h → ρ x0 = 16 → ρ x1 = 13 → Rg (0) (63) (x2) → Rg (0) (63) (x3) → Rg (0) (95) (x4) → Rg (0) (2) (x5) → Rg (1) (8) (x6) → (8 - x6.toInt).toNat < f → Sat (sX15_reaches_6 F f h x0 x1 x2 x3 x4 x5 x6) (ZI0 h0 (0) (1)) := by
  intro f
  induction f with
  | zero => intros; omega
  | succ f ih =>
    intro h x0 x1 x2 x3 x4 x5 x6 E T r_x0 r_x1 i_x2 i_x3 i_x4 i_x5 i_x6 hm
    rw [sX15_reaches_6]
    unfold sX15_reaches_42 sX15_reaches_83
    obtain ⟨C_6, hC_6⟩ : ∃ C : Int, C = x6.toInt := ⟨_, rfl⟩
    have hk_6 : ∀ {h : Hp} {x0 : Nat} {x1 : Nat} {x2 : Int32} {x3 : Int32} {x4 : Int32} {x5 : Int32} {x6 : Int32}, h = h0 → TH ρ c h → ρ x0 = 16 → ρ x1 = 13 → Rg (0) (63) (x2) → Rg (0) (63) (x3) → Rg (0) (95) (x4) → Rg (0) (2) (x5) → Rg (1) (8) (x6) → C_6 < x6.toInt → Sat (sX15_reaches_6 F f h x0 x1 x2 x3 x4 x5 x6) (ZI0 h0 (0) (1)) := by
      intro h' x0' x1' x2' x3' x4' x5' x6' E' T' r_x0' r_x1' i_x2' i_x3' i_x4' i_x5' i_x6' hl
      exact ih E' T' r_x0' r_x1' i_x2' i_x3' i_x4' i_x5' i_x6' (by have := i_x6'.1; have := i_x6'.2; omega)
    have hc_6 : C_6 ≤ x6.toInt := by omega
    obtain ⟨r_1, e_r_1, q_r_1⟩ := thR T r_x0 (k := 16) (i := 4) (k2 := 15) rfl (by decide)
    refine s_ref e_r_1 ?_
    obtain ⟨r_2, e_r_2, q_r_2⟩ := thR T q_r_1 (k := 15) (i := 8) (k2 := 78) rfl (by decide)
    refine s_ref e_r_2 ?_
    refine s_gd (by rw [thN T q_r_2 (k := 78) (n := 96) rfl (by decide)]; exact rg_inB (i_x4 : Rg (0) (95) (x4)) (by decide)) ?_
    refine s_br (fun c_1 => ?_) (fun c_1 => ?_)
    · have _ := c_1
      exact s_some ⟨E, (rg_m (rg_b rfl : Rg (0) (0) ((0 : Int32))) (by decide))⟩
    · have _ := c_1
      have i_f_2 : Rg (1) (7) (x6) := rg_le1 (nlt_le c_1) i_x6 (thI T q_r_2 (k := 78) rfl : Rg (0) (7) ((hI h r_2 x4.toNatClampNeg)))
      have i_f_3 : Rg (1) (7) ((hI h r_2 x4.toNatClampNeg)) := rg_le2 (nlt_le c_1) i_x6 (thI T q_r_2 (k := 78) rfl : Rg (0) (7) ((hI h r_2 x4.toNatClampNeg)))
      refine s_dI0 (zX15_onward hF T r_x0 i_x2 (rg_m i_f_2 (by decide))) (fun o_5 eb_o_5 e_o_5 i_o_5 => ?_)
      have T_4 := th_eq e_o_5 T
      refine s_br (fun c_5 => ?_) (fun c_5 => ?_)
      · have _ := c_5
        have i_f_6 : Rg (-1) (-1) (o_5.1) := rg_eq c_5 (rg_b rfl : Rg (-1) (-1) ((- 1 : Int32)))
        exact s_some ⟨(e_o_5.trans E), (rg_m (rg_b rfl : Rg (0) (0) ((0 : Int32))) (by decide))⟩
      · have _ := c_5
        have i_f_7 : Rg (0) (63) (o_5.1) := rg_nlo c_5 i_o_5 (rg_b rfl : Rg (-1) (-1) ((- 1 : Int32)))
        refine s_br (fun c_8 => ?_) (fun c_8 => ?_)
        · have _ := c_8
          have i_f_9 : Rg (0) (1) (x5) := rg_le1 c_8 i_x5 (rg_b rfl : Rg (1) (1) ((1 : Int32)))
          refine s_br (fun c_10 => ?_) (fun c_10 => ?_)
          · have _ := c_10
            refine s_ref (hr_e e_o_5 e_r_1) ?_
            obtain ⟨r_13, e_r_13, q_r_13⟩ := thR T_4 q_r_1 (k := 15) (i := 5) (k2 := 75) rfl (by decide)
            refine s_ref e_r_13 ?_
            refine s_gd (by rw [thN T_4 q_r_13 (k := 75) (n := 96) rfl (by decide)]; exact rg_inB (i_x4 : Rg (0) (95) (x4)) (by decide)) ?_
            refine s_dI0 (zX15_isFree hF T_4 (thI T_4 q_r_13 (k := 75) rfl : Rg (0) (63) ((hI o_5.2 r_13 x4.toNatClampNeg))) i_f_9) (fun o_15 eb_o_15 e_o_15 i_o_15 => ?_)
            have T_11 := th_eq e_o_15 T_4
            refine s_gd (rg_bool i_o_15) ?_
            exact s_some ⟨(e_o_15.trans (e_o_5.trans E)), i_o_15⟩
          · have _ := c_10
            obtain ⟨r_9, e_r_9, q_r_9⟩ := thR T_4 r_x1 (k := 13) (i := 0) (k2 := 62) rfl (by decide)
            refine s_ref e_r_9 ?_
            refine s_gd (by rw [thN T_4 q_r_9 (k := 62) (n := 64) rfl (by decide)]; exact rg_inB (i_f_7 : Rg (0) (63) (o_5.1)) (by decide)) ?_
            refine s_br (fun c_12 => ?_) (fun c_12 => ?_)
            · have _ := c_12
              have i_f_13 : Rg (0) (0) ((hI o_5.2 r_9 o_5.1.toNatClampNeg)) := rg_le1 c_12 (thI T_4 q_r_9 (k := 62) rfl : Rg (0) (24) ((hI o_5.2 r_9 o_5.1.toNatClampNeg))) (rg_b rfl : Rg (0) (0) (0 : Int32))
              refine s_q (fun v_1q2 e_14 => ?_)
              have i_v_1q2 : Rg (0) (1) (v_1q2) := by rw [e_14]; exact (rg_add i_f_9 (rg_b rfl : Rg (0) (0) ((0 : Int32))) (by decide) : Rg (0) (1) (x5 + (0 : Int32)))
              refine s_q (fun v_2q2 e_15 => ?_)
              have i_v_2q2 : Rg (2) (8) (v_2q2) := by rw [e_15]; exact (rg_add i_f_2 (rg_b rfl : Rg (1) (1) ((1 : Int32))) (by decide) : Rg (2) (8) (x6 + (1 : Int32)))
              have m_16 : (v_2q2).toInt = x6.toInt + 1 := by rw [e_15]; exact rg_inc i_f_2 (by decide)
              exact hk_6 (e_o_5.trans E) T_4 r_x0 r_x1 i_x2 i_x3 i_x4 (rg_m i_v_1q2 (by decide)) (rg_m i_v_2q2 (by decide)) (by have := hc_6; omega)
            · have _ := c_12
              have i_f_17 : Rg (1) (24) ((hI o_5.2 r_9 o_5.1.toNatClampNeg)) := rg_lt2 (nle_lt c_12) (rg_b rfl : Rg (0) (0) (0 : Int32)) (thI T_4 q_r_9 (k := 62) rfl : Rg (0) (24) ((hI o_5.2 r_9 o_5.1.toNatClampNeg)))
              refine s_q (fun v_1q3 e_18 => ?_)
              have i_v_1q3 : Rg (1) (2) (v_1q3) := by rw [e_18]; exact (rg_add i_f_9 (rg_b rfl : Rg (1) (1) ((1 : Int32))) (by decide) : Rg (1) (2) (x5 + (1 : Int32)))
              refine s_q (fun v_2q3 e_19 => ?_)
              have i_v_2q3 : Rg (2) (8) (v_2q3) := by rw [e_19]; exact (rg_add i_f_2 (rg_b rfl : Rg (1) (1) ((1 : Int32))) (by decide) : Rg (2) (8) (x6 + (1 : Int32)))
              have m_20 : (v_2q3).toInt = x6.toInt + 1 := by rw [e_19]; exact rg_inc i_f_2 (by decide)
              exact hk_6 (e_o_5.trans E) T_4 r_x0 r_x1 i_x2 i_x3 i_x4 (rg_m i_v_1q3 (by decide)) (rg_m i_v_2q3 (by decide)) (by have := hc_6; omega)
        · have _ := c_8
          have i_f_21 : Rg (2) (2) (x5) := rg_lt2 (nle_lt c_8) (rg_b rfl : Rg (1) (1) ((1 : Int32))) i_x5
          exact s_some ⟨(e_o_5.trans E), (rg_m (rg_b rfl : Rg (0) (0) ((0 : Int32))) (by decide))⟩
set_option maxRecDepth 20000 in
theorem zX15_reaches {ρ : Nat → Nat} {c : Cm} {F : Nat} (hF : 700000 ≤ F) {h : Hp} {x0 : Nat} {x1 : Nat} {x2 : Int32} {x3 : Int32} {x4 : Int32} (T : TH ρ c h) (r_x0 : ρ x0 = 16) (r_x1 : ρ x1 = 13) (i_x2 : Rg (0) (63) (x2)) (i_x3 : Rg (0) (63) (x3)) (i_x4 : Rg (0) (95) (x4)) : Sat (sX15_reaches F h x0 x1 x2 x3 x4) (ZI0 h (0) (1)) := by
  unfold sX15_reaches 
  have m_1 : Rg (1) (8) ((1 : Int32)) := (rg_m (rg_b rfl : Rg (1) (1) ((1 : Int32))) (by decide))
  exact zX15_reaches_6 hF F rfl T r_x0 r_x1 i_x2 i_x3 i_x4 (rg_m (rg_b rfl : Rg (0) (0) ((0 : Int32))) (by decide)) (rg_m (rg_b rfl : Rg (1) (1) ((1 : Int32))) (by decide)) (by have := m_1.1; have := m_1.2; omega)
set_option maxRecDepth 20000 in
theorem zX15_attacks_70 {ρ : Nat → Nat} {c : Cm} {F : Nat} {w_x1 : Nat} (hF : 700000 ≤ F) {k_9 : Hp → Nat → Nat → Int32 → Int32 → Int32 → Int32 → Int32 → Option (Int32 × Hp)} {C_9 : Int} (hk_9 : ∀ {h : Hp} {x0 : Nat} {x1 : Nat} {x2 : Int32} {x3 : Int32} {x4 : Int32} {x5 : Int32} {x6 : Int32}, cw c x1 = w_x1 → TH ρ c h → ρ x0 = 16 → ρ x1 = 13 → Rg (0) (63) (x2) → Rg (1) (24) (x3) → Rg (0) (63) (x4) → Rg (0) (11) (x5) → Rg (0) (8) (x6) → C_9 < x6.toInt → Sat (k_9 h x0 x1 x2 x3 x4 x5 x6) (ZI ρ c (0) (1))) (hA : pmA c [(16, 23), (16, 24)]) : ∀ (f : Nat) {h : Hp} {x0 : Nat} {x1 : Nat} {x2 : Int32} {x3 : Int32} {x4 : Int32} {x5 : Int32} {x6 : Int32} {x7 : Int32} {x9 : Int32}, cw c x1 = w_x1 → TH ρ c h → ρ x0 = 16 → ρ x1 = 13 → Rg (0) (63) (x2) → Rg (1) (24) (x3) → Rg (0) (63) (x4) → Rg (0) (11) (x5) → Rg (0) (7) (x6) → Rg (0) (95) (x7) → Rg (0) (8) (x9) → C_9 ≤ x6.toInt → (8 - x9.toInt).toNat < f → Sat (sX15_attacks_70 F k_9 f h x0 x1 x2 x3 x4 x5 x6 x7 x9) (ZI ρ c (0) (1)) := by
  intro f
  induction f with
  | zero => intros; omega
  | succ f ih =>
    intro h x0 x1 x2 x3 x4 x5 x6 x7 x9 o_x1 T r_x0 r_x1 i_x2 i_x3 i_x4 i_x5 i_x6 i_x7 i_x9 hc_9 hm
    rw [sX15_attacks_70]
    unfold sX15_attacks_113 sX15_sideOf sX15_attacks_107
    obtain ⟨C_70, hC_70⟩ : ∃ C : Int, C = x9.toInt := ⟨_, rfl⟩
    have hk_70 : ∀ {h : Hp} {x0 : Nat} {x1 : Nat} {x2 : Int32} {x3 : Int32} {x4 : Int32} {x5 : Int32} {x6 : Int32} {x7 : Int32} {x9 : Int32}, cw c x1 = w_x1 → TH ρ c h → ρ x0 = 16 → ρ x1 = 13 → Rg (0) (63) (x2) → Rg (1) (24) (x3) → Rg (0) (63) (x4) → Rg (0) (11) (x5) → Rg (0) (7) (x6) → Rg (0) (95) (x7) → Rg (0) (8) (x9) → C_9 ≤ x6.toInt → C_70 < x9.toInt → Sat (sX15_attacks_70 F k_9 f h x0 x1 x2 x3 x4 x5 x6 x7 x9) (ZI ρ c (0) (1)) := by
      intro h' x0' x1' x2' x3' x4' x5' x6' x7' x9' o_x1' T' r_x0' r_x1' i_x2' i_x3' i_x4' i_x5' i_x6' i_x7' i_x9' hc_9' hl
      exact ih o_x1' T' r_x0' r_x1' i_x2' i_x3' i_x4' i_x5' i_x6' i_x7' i_x9' hc_9' (by have := i_x9'.1; have := i_x9'.2; omega)
    have hc_70 : C_70 ≤ x9.toInt := by omega
    refine s_br (fun c_1 => ?_) (fun c_1 => ?_)
    · have _ := c_1
      have i_f_2 : Rg (8) (8) (x9) := rg_le2 c_1 (rg_b rfl : Rg (8) (8) ((8 : Int32))) i_x9
      refine s_q (fun v_1q1 e_3 => ?_)
      have i_v_1q1 : Rg (1) (8) (v_1q1) := by rw [e_3]; exact (rg_add i_x6 (rg_b rfl : Rg (1) (1) ((1 : Int32))) (by decide) : Rg (1) (8) (x6 + (1 : Int32)))
      have m_4 : (v_1q1).toInt = x6.toInt + 1 := by rw [e_3]; exact rg_inc i_x6 (by decide)
      exact hk_9 o_x1 T r_x0 r_x1 i_x2 i_x3 i_x4 i_x5 (rg_m i_v_1q1 (by decide)) (by have := hc_9; omega)
    · have _ := c_1
      have i_f_5 : Rg (0) (7) (x9) := rg_lt1 (nle_lt c_1) i_x9 (rg_b rfl : Rg (8) (8) ((8 : Int32)))
      refine s_pu (fun o_2z e_6 => ?_)
      try dsimp only
      have i_o_2z : Rg (0) (1) (o_2z) := by rw [e_6]; exact (rg_and (rg_b rfl : Rg (1) (1) ((1 : Int32))) (by decide) : Rg (0) (1) ((x3 - (1 : Int32)) &&& (1 : Int32)))
      refine s_cI (zX15_hasVector hF (pmA_s hA rfl) T r_x0 i_x7 i_f_5 i_o_2z) (fun o_3 T_7 i_o_3 => ?_)
      refine s_br (fun c_8 => ?_) (fun c_8 => ?_)
      · have _ := c_8
        have i_f_9 : Rg (0) (0) (o_3.1) := rg_eq c_8 (rg_b rfl : Rg (0) (0) (0 : Int32))
        refine s_q (fun v_1q2 e_10 => ?_)
        have i_v_1q2 : Rg (1) (8) (v_1q2) := by rw [e_10]; exact (rg_add i_f_5 (rg_b rfl : Rg (1) (1) ((1 : Int32))) (by decide) : Rg (1) (8) (x9 + (1 : Int32)))
        have m_11 : (v_1q2).toInt = x9.toInt + 1 := by rw [e_10]; exact rg_inc i_f_5 (by decide)
        exact hk_70 o_x1 T_7 r_x0 r_x1 i_x2 i_x3 i_x4 i_x5 i_x6 i_x7 (rg_m i_v_1q2 (by decide)) hc_9 (by have := hc_70; omega)
      · have _ := c_8
        have i_f_12 : Rg (1) (1) (o_3.1) := rg_nlo c_8 i_o_3 (rg_b rfl : Rg (0) (0) (0 : Int32))
        refine s_dI0 (zX15_reaches hF T_7 r_x0 r_x1 i_x2 i_x4 i_x7) (fun o_5 eb_o_5 e_o_5 i_o_5 => ?_)
        have T_13 := th_eq e_o_5 T_7
        refine s_br (fun c_14 => ?_) (fun c_14 => ?_)
        · have _ := c_14
          have i_f_15 : Rg (0) (0) (o_5.1) := rg_eq c_14 (rg_b rfl : Rg (0) (0) (0 : Int32))
          refine s_q (fun v_1q3 e_16 => ?_)
          have i_v_1q3 : Rg (1) (8) (v_1q3) := by rw [e_16]; exact (rg_add i_f_5 (rg_b rfl : Rg (1) (1) ((1 : Int32))) (by decide) : Rg (1) (8) (x9 + (1 : Int32)))
          have m_17 : (v_1q3).toInt = x9.toInt + 1 := by rw [e_16]; exact rg_inc i_f_5 (by decide)
          exact hk_70 o_x1 T_13 r_x0 r_x1 i_x2 i_x3 i_x4 i_x5 i_x6 i_x7 (rg_m i_v_1q3 (by decide)) hc_9 (by have := hc_70; omega)
        · have _ := c_14
          have i_f_18 : Rg (1) (1) (o_5.1) := rg_nlo c_14 i_o_5 (rg_b rfl : Rg (0) (0) (0 : Int32))
          exact s_some ⟨(T_13), (rg_m (rg_b rfl : Rg (1) (1) ((1 : Int32))) (by decide))⟩
set_option maxRecDepth 20000 in
theorem zX15_attacks_9 {ρ : Nat → Nat} {c : Cm} {F : Nat} {w_x1 : Nat} (hF : 700000 ≤ F) (hA : pmA c [(16, 23), (16, 24)]) : ∀ (f : Nat) {h : Hp} {x0 : Nat} {x1 : Nat} {x2 : Int32} {x3 : Int32} {x4 : Int32} {x5 : Int32} {x6 : Int32}, cw c x1 = w_x1 → TH ρ c h → ρ x0 = 16 → ρ x1 = 13 → Rg (0) (63) (x2) → Rg (1) (24) (x3) → Rg (0) (63) (x4) → Rg (0) (11) (x5) → Rg (0) (8) (x6) → (8 - x6.toInt).toNat < f → Sat (sX15_attacks_9 F f h x0 x1 x2 x3 x4 x5 x6) (ZI ρ c (0) (1)) := by
  intro f
  induction f with
  | zero => intros; omega
  | succ f ih =>
    intro h x0 x1 x2 x3 x4 x5 x6 o_x1 T r_x0 r_x1 i_x2 i_x3 i_x4 i_x5 i_x6 hm
    rw [sX15_attacks_9]
    unfold sX15_sideOf sX15_attacks_113
    obtain ⟨C_9, hC_9⟩ : ∃ C : Int, C = x6.toInt := ⟨_, rfl⟩
    have hk_9 : ∀ {h : Hp} {x0 : Nat} {x1 : Nat} {x2 : Int32} {x3 : Int32} {x4 : Int32} {x5 : Int32} {x6 : Int32}, cw c x1 = w_x1 → TH ρ c h → ρ x0 = 16 → ρ x1 = 13 → Rg (0) (63) (x2) → Rg (1) (24) (x3) → Rg (0) (63) (x4) → Rg (0) (11) (x5) → Rg (0) (8) (x6) → C_9 < x6.toInt → Sat (sX15_attacks_9 F f h x0 x1 x2 x3 x4 x5 x6) (ZI ρ c (0) (1)) := by
      intro h' x0' x1' x2' x3' x4' x5' x6' o_x1' T' r_x0' r_x1' i_x2' i_x3' i_x4' i_x5' i_x6' hl
      exact ih o_x1' T' r_x0' r_x1' i_x2' i_x3' i_x4' i_x5' i_x6' (by have := i_x6'.1; have := i_x6'.2; omega)
    have hc_9 : C_9 ≤ x6.toInt := by omega
    obtain ⟨r_1, e_r_1, q_r_1⟩ := thR T r_x0 (k := 16) (i := 4) (k2 := 15) rfl (by decide)
    refine s_ref e_r_1 ?_
    obtain ⟨r_2, e_r_2, q_r_2⟩ := thR T q_r_1 (k := 15) (i := 4) (k2 := 74) rfl (by decide)
    refine s_ref e_r_2 ?_
    refine s_gd (by rw [thN T q_r_2 (k := 74) (n := 12) rfl (by decide)]; exact rg_inB (i_x5 : Rg (0) (11) (x5)) (by decide)) ?_
    refine s_br (fun c_1 => ?_) (fun c_1 => ?_)
    · have _ := c_1
      exact s_some ⟨(T), (rg_m (rg_b rfl : Rg (0) (0) ((0 : Int32))) (by decide))⟩
    · have _ := c_1
      have i_f_2 : Rg (0) (7) (x6) := rg_lt1 (nle_lt c_1) i_x6 (thI T q_r_2 (k := 74) rfl : Rg (0) (8) ((hI h r_2 x5.toNatClampNeg)))
      have i_f_3 : Rg (1) (8) ((hI h r_2 x5.toNatClampNeg)) := rg_lt2 (nle_lt c_1) i_x6 (thI T q_r_2 (k := 74) rfl : Rg (0) (8) ((hI h r_2 x5.toNatClampNeg)))
      refine s_q (fun v_5 e_4 => ?_)
      have i_v_5 : Rg (0) (95) (v_5) := by rw [e_4]; exact (rg_add (rg_mulc' (rg_b rfl : Rg (8) (8) ((8 : Int32))) i_x5 (by decide) : Rg (0) (88) (((8 : Int32) * x5))) i_f_2 (by decide) : Rg (0) (95) (((8 : Int32) * x5) + x6))
      refine s_ref e_r_1 ?_
      obtain ⟨r_7, e_r_7, q_r_7⟩ := thR T q_r_1 (k := 15) (i := 5) (k2 := 75) rfl (by decide)
      refine s_ref e_r_7 ?_
      refine s_gd (by rw [thN T q_r_7 (k := 75) (n := 96) rfl (by decide)]; exact rg_inB (i_v_5 : Rg (0) (95) (v_5)) (by decide)) ?_
      refine s_q (fun v_9 e_5 => ?_)
      have i_v_9 : Rg (0) (63) (v_9) := by rw [e_5]; exact (thI T q_r_7 (k := 75) rfl : Rg (0) (63) (hI h r_7 v_5.toNatClampNeg))
      refine s_br (fun c_6 => ?_) (fun c_6 => ?_)
      · have _ := c_6
        have i_f_7 : Rg (0) (0) ((v_9 &&& (1 : Int32))) := rg_eq c_6 (rg_b rfl : Rg (0) (0) (0 : Int32))
        refine s_pu (fun o_11z e_8 => ?_)
        try dsimp only
        have i_o_11z : Rg (0) (1) (o_11z) := by rw [e_8]; exact (rg_and (rg_b rfl : Rg (1) (1) ((1 : Int32))) (by decide) : Rg (0) (1) ((x3 - (1 : Int32)) &&& (1 : Int32)))
        refine s_dI0 (zX15_isFrom hF T r_x0 i_v_5 i_x2 i_o_11z) (fun o_12 eb_o_12 e_o_12 i_o_12 => ?_)
        have T_9 := th_eq e_o_12 T
        refine s_br (fun c_10 => ?_) (fun c_10 => ?_)
        · have _ := c_10
          have i_f_11 : Rg (0) (0) (o_12.1) := rg_eq c_10 (rg_b rfl : Rg (0) (0) (0 : Int32))
          refine s_q (fun v_1q1 e_12 => ?_)
          have i_v_1q1 : Rg (1) (8) (v_1q1) := by rw [e_12]; exact (rg_add i_f_2 (rg_b rfl : Rg (1) (1) ((1 : Int32))) (by decide) : Rg (1) (8) (x6 + (1 : Int32)))
          have m_13 : (v_1q1).toInt = x6.toInt + 1 := by rw [e_12]; exact rg_inc i_f_2 (by decide)
          exact hk_9 o_x1 T_9 r_x0 r_x1 i_x2 i_x3 i_x4 i_x5 (rg_m i_v_1q1 (by decide)) (by have := hc_9; omega)
        · have _ := c_10
          have i_f_14 : Rg (1) (1) (o_12.1) := rg_nlo c_10 i_o_12 (rg_b rfl : Rg (0) (0) (0 : Int32))
          have m_15 : Rg (0) (8) ((0 : Int32)) := (rg_m (rg_b rfl : Rg (0) (0) ((0 : Int32))) (by decide))
          exact zX15_attacks_70 hF @hk_9 (pmA_s hA rfl) F o_x1 T_9 r_x0 r_x1 i_x2 i_x3 i_x4 i_x5 i_f_2 i_v_5 (rg_m (rg_b rfl : Rg (0) (0) ((0 : Int32))) (by decide)) hc_9 (by have := m_15.1; have := m_15.2; omega)
      · have _ := c_6
        have i_f_16 : Rg (1) (1) ((v_9 &&& (1 : Int32))) := rg_nlo c_6 (rg_and (rg_b rfl : Rg (1) (1) ((1 : Int32))) (by decide) : Rg (0) (1) ((v_9 &&& (1 : Int32)))) (rg_b rfl : Rg (0) (0) (0 : Int32))
        refine s_q (fun v_1q2 e_17 => ?_)
        have i_v_1q2 : Rg (1) (8) (v_1q2) := by rw [e_17]; exact (rg_add i_f_2 (rg_b rfl : Rg (1) (1) ((1 : Int32))) (by decide) : Rg (1) (8) (x6 + (1 : Int32)))
        have m_18 : (v_1q2).toInt = x6.toInt + 1 := by rw [e_17]; exact rg_inc i_f_2 (by decide)
        exact hk_9 o_x1 T r_x0 r_x1 i_x2 i_x3 i_x4 i_x5 (rg_m i_v_1q2 (by decide)) (by have := hc_9; omega)
set_option maxRecDepth 20000 in
theorem zX15_attacks {ρ : Nat → Nat} {c : Cm} {F : Nat} {w_x1 : Nat} (hF : 700000 ≤ F) (hA : pmA c [(16, 23), (16, 24)]) {h : Hp} {x0 : Nat} {x1 : Nat} {x2 : Int32} {x3 : Int32} {x4 : Int32} (o_x1 : cw c x1 = w_x1) (T : TH ρ c h) (r_x0 : ρ x0 = 16) (r_x1 : ρ x1 = 13) (i_x2 : Rg (0) (63) (x2)) (i_x3 : Rg (1) (24) (x3)) (i_x4 : Rg (0) (63) (x4)) : Sat (sX15_attacks F h x0 x1 x2 x3 x4) (ZI ρ c (0) (1)) := by
  unfold sX15_attacks sX15_manOf
  refine s_pu (fun o_1z e_1 => ?_)
  try dsimp only
  have i_o_1z : Rg (0) (11) (o_1z) := by rw [e_1]; exact (rg_shrk 1 (by decide) (rg_sub i_x3 (rg_b rfl : Rg (1) (1) ((1 : Int32))) (by decide) : Rg (0) (23) ((x3 - (1 : Int32)))) (by decide) : Rg (0) (11) ((x3 - (1 : Int32)) >>> ((1 : Int32) &&& 31)))
  have m_2 : Rg (0) (8) ((0 : Int32)) := (rg_m (rg_b rfl : Rg (0) (0) ((0 : Int32))) (by decide))
  exact zX15_attacks_9 hF (pmA_s hA rfl) F o_x1 T r_x0 r_x1 i_x2 i_x3 i_x4 i_o_1z (rg_m (rg_b rfl : Rg (0) (0) ((0 : Int32))) (by decide)) (by have := m_2.1; have := m_2.2; omega)
set_option maxRecDepth 20000 in
theorem zX15_isAttacked_3 {ρ : Nat → Nat} {c : Cm} {F : Nat} {w_x1 : Nat} (hF : 700000 ≤ F) (hA : pmA c [(16, 23), (16, 24)]) : ∀ (f : Nat) {h : Hp} {x0 : Nat} {x1 : Nat} {x2 : Int32} {x3 : Int32} {x4 : Int32}, cw c x1 = w_x1 → TH ρ c h → ρ x0 = 16 → ρ x1 = 13 → Rg (0) (63) (x2) → Rg (0) (1) (x3) → Rg (0) (64) (x4) → (64 - x4.toInt).toNat < f → Sat (sX15_isAttacked_3 F f h x0 x1 x2 x3 x4) (ZI ρ c (0) (1)) := by
  intro f
  induction f with
  | zero => intros; omega
  | succ f ih =>
    intro h x0 x1 x2 x3 x4 o_x1 T r_x0 r_x1 i_x2 i_x3 i_x4 hm
    rw [sX15_isAttacked_3]
    unfold sX15_isAttacked_56 sX15_sideOf
    obtain ⟨C_3, hC_3⟩ : ∃ C : Int, C = x4.toInt := ⟨_, rfl⟩
    have hk_3 : ∀ {h : Hp} {x0 : Nat} {x1 : Nat} {x2 : Int32} {x3 : Int32} {x4 : Int32}, cw c x1 = w_x1 → TH ρ c h → ρ x0 = 16 → ρ x1 = 13 → Rg (0) (63) (x2) → Rg (0) (1) (x3) → Rg (0) (64) (x4) → C_3 < x4.toInt → Sat (sX15_isAttacked_3 F f h x0 x1 x2 x3 x4) (ZI ρ c (0) (1)) := by
      intro h' x0' x1' x2' x3' x4' o_x1' T' r_x0' r_x1' i_x2' i_x3' i_x4' hl
      exact ih o_x1' T' r_x0' r_x1' i_x2' i_x3' i_x4' (by have := i_x4'.1; have := i_x4'.2; omega)
    have hc_3 : C_3 ≤ x4.toInt := by omega
    refine s_br (fun c_1 => ?_) (fun c_1 => ?_)
    · have _ := c_1
      have i_f_2 : Rg (9) (64) (x4) := rg_le2 c_1 (thI T r_x0 (k := 16) (i := 13) rfl : Rg (9) (64) ((hI h x0 13))) i_x4
      exact s_some ⟨(T), (rg_m (rg_b rfl : Rg (0) (0) ((0 : Int32))) (by decide))⟩
    · have _ := c_1
      have i_f_3 : Rg (0) (63) (x4) := rg_lt1 (nle_lt c_1) i_x4 (thI T r_x0 (k := 16) (i := 13) rfl : Rg (9) (64) ((hI h x0 13)))
      obtain ⟨r_2, e_r_2, q_r_2⟩ := thR T r_x1 (k := 13) (i := 0) (k2 := 62) rfl (by decide)
      refine s_ref e_r_2 ?_
      refine s_gd (by rw [thN T q_r_2 (k := 62) (n := 64) rfl (by decide)]; exact rg_inB (i_f_3 : Rg (0) (63) (x4)) (by decide)) ?_
      refine s_q (fun v_4 e_4 => ?_)
      have i_v_4 : Rg (0) (24) (v_4) := by rw [e_4]; exact (thI T q_r_2 (k := 62) rfl : Rg (0) (24) (hI h r_2 x4.toNatClampNeg))
      refine s_br (fun c_5 => ?_) (fun c_5 => ?_)
      · have _ := c_5
        have i_f_6 : Rg (0) (0) (v_4) := rg_le1 c_5 i_v_4 (rg_b rfl : Rg (0) (0) (0 : Int32))
        refine s_q (fun v_1q1 e_7 => ?_)
        have i_v_1q1 : Rg (1) (64) (v_1q1) := by rw [e_7]; exact (rg_add i_f_3 (rg_b rfl : Rg (1) (1) ((1 : Int32))) (by decide) : Rg (1) (64) (x4 + (1 : Int32)))
        have m_8 : (v_1q1).toInt = x4.toInt + 1 := by rw [e_7]; exact rg_inc i_f_3 (by decide)
        exact hk_3 o_x1 T r_x0 r_x1 i_x2 i_x3 (rg_m i_v_1q1 (by decide)) (by have := hc_3; omega)
      · have _ := c_5
        have i_f_9 : Rg (1) (24) (v_4) := rg_lt2 (nle_lt c_5) (rg_b rfl : Rg (0) (0) (0 : Int32)) i_v_4
        refine s_pu (fun o_6z e_10 => ?_)
        try dsimp only
        have i_o_6z : Rg (0) (1) (o_6z) := by rw [e_10]; exact (rg_and (rg_b rfl : Rg (1) (1) ((1 : Int32))) (by decide) : Rg (0) (1) ((v_4 - (1 : Int32)) &&& (1 : Int32)))
        refine s_br (fun c_11 => ?_) (fun c_11 => ?_)
        · have _ := c_11
          refine s_br (fun c_12 => ?_) (fun c_12 => ?_)
          · have _ := c_12
            refine s_q (fun v_1q2 e_13 => ?_)
            have i_v_1q2 : Rg (1) (64) (v_1q2) := by rw [e_13]; exact (rg_add i_f_3 (rg_b rfl : Rg (1) (1) ((1 : Int32))) (by decide) : Rg (1) (64) (x4 + (1 : Int32)))
            have m_14 : (v_1q2).toInt = x4.toInt + 1 := by rw [e_13]; exact rg_inc i_f_3 (by decide)
            exact hk_3 o_x1 T r_x0 r_x1 i_x2 i_x3 (rg_m i_v_1q2 (by decide)) (by have := hc_3; omega)
          · have _ := c_12
            refine s_cI (zX15_attacks hF (pmA_s hA rfl) o_x1 T r_x0 r_x1 i_f_3 i_f_9 i_x2) (fun o_9 T_15 i_o_9 => ?_)
            refine s_br (fun c_16 => ?_) (fun c_16 => ?_)
            · have _ := c_16
              have i_f_17 : Rg (0) (0) (o_9.1) := rg_eq c_16 (rg_b rfl : Rg (0) (0) (0 : Int32))
              refine s_q (fun v_1q3 e_18 => ?_)
              have i_v_1q3 : Rg (1) (64) (v_1q3) := by rw [e_18]; exact (rg_add i_f_3 (rg_b rfl : Rg (1) (1) ((1 : Int32))) (by decide) : Rg (1) (64) (x4 + (1 : Int32)))
              have m_19 : (v_1q3).toInt = x4.toInt + 1 := by rw [e_18]; exact rg_inc i_f_3 (by decide)
              exact hk_3 o_x1 T_15 r_x0 r_x1 i_x2 i_x3 (rg_m i_v_1q3 (by decide)) (by have := hc_3; omega)
            · have _ := c_16
              have i_f_20 : Rg (1) (1) (o_9.1) := rg_nlo c_16 i_o_9 (rg_b rfl : Rg (0) (0) (0 : Int32))
              exact s_some ⟨(T_15), (rg_m (rg_b rfl : Rg (1) (1) ((1 : Int32))) (by decide))⟩
        · have _ := c_11
          refine s_q (fun v_1q4 e_21 => ?_)
          have i_v_1q4 : Rg (1) (64) (v_1q4) := by rw [e_21]; exact (rg_add i_f_3 (rg_b rfl : Rg (1) (1) ((1 : Int32))) (by decide) : Rg (1) (64) (x4 + (1 : Int32)))
          have m_22 : (v_1q4).toInt = x4.toInt + 1 := by rw [e_21]; exact rg_inc i_f_3 (by decide)
          exact hk_3 o_x1 T r_x0 r_x1 i_x2 i_x3 (rg_m i_v_1q4 (by decide)) (by have := hc_3; omega)
set_option maxRecDepth 20000 in
theorem zX15_isAttacked {ρ : Nat → Nat} {c : Cm} {F : Nat} {w_x1 : Nat} (hF : 700000 ≤ F) (hA : pmA c [(16, 23), (16, 24)]) {h : Hp} {x0 : Nat} {x1 : Nat} {x2 : Int32} {x3 : Int32} (o_x1 : cw c x1 = w_x1) (T : TH ρ c h) (r_x0 : ρ x0 = 16) (r_x1 : ρ x1 = 13) (i_x2 : Rg (0) (63) (x2)) (i_x3 : Rg (0) (1) (x3)) : Sat (sX15_isAttacked F h x0 x1 x2 x3) (ZI ρ c (0) (1)) := by
  unfold sX15_isAttacked 
  have m_1 : Rg (0) (64) ((0 : Int32)) := (rg_m (rg_b rfl : Rg (0) (0) ((0 : Int32))) (by decide))
  exact zX15_isAttacked_3 hF (pmA_s hA rfl) F o_x1 T r_x0 r_x1 i_x2 i_x3 (rg_m (rg_b rfl : Rg (0) (0) ((0 : Int32))) (by decide)) (by have := m_1.1; have := m_1.2; omega)
set_option maxRecDepth 20000 in
theorem zX15_becomesOthers {ρ : Nat → Nat} {c : Cm} {F : Nat} (hF : 700000 ≤ F) {h : Hp} {x0 : Nat} {x1 : Int32} (T : TH ρ c h) (r_x0 : ρ x0 = 16) (i_x1 : Rg (0) (11) (x1)) : Sat (sX15_becomesOthers h x0 x1) (ZI0 h (0) (1)) := by
  unfold sX15_becomesOthers sX15_becomesOthers_17
  obtain ⟨r_1, e_r_1, q_r_1⟩ := thR T r_x0 (k := 16) (i := 4) (k2 := 15) rfl (by decide)
  refine s_ref e_r_1 ?_
  obtain ⟨r_2, e_r_2, q_r_2⟩ := thR T q_r_1 (k := 15) (i := 14) (k2 := 81) rfl (by decide)
  refine s_ref e_r_2 ?_
  refine s_gd (by rw [thN T q_r_2 (k := 81) (n := 12) rfl (by decide)]; exact rg_inB (i_x1 : Rg (0) (11) (x1)) (by decide)) ?_
  refine s_br (fun c_1 => ?_) (fun c_1 => ?_)
  · have _ := c_1
    have i_f_2 : Rg (0) (0) ((hI h r_2 x1.toNatClampNeg)) := rg_le1 c_1 (thI T q_r_2 (k := 81) rfl : Rg (0) (6) ((hI h r_2 x1.toNatClampNeg))) (rg_b rfl : Rg (0) (0) (0 : Int32))
    refine s_gd (rg_bool (rg_m (rg_b rfl : Rg (0) (0) ((0 : Int32))) (by decide))) ?_
    exact s_some ⟨rfl, (rg_m (rg_b rfl : Rg (0) (0) ((0 : Int32))) (by decide))⟩
  · have _ := c_1
    have i_f_3 : Rg (1) (6) ((hI h r_2 x1.toNatClampNeg)) := rg_lt2 (nle_lt c_1) (rg_b rfl : Rg (0) (0) (0 : Int32)) (thI T q_r_2 (k := 81) rfl : Rg (0) (6) ((hI h r_2 x1.toNatClampNeg)))
    refine s_gd (rg_bool (rg_m (rg_b rfl : Rg (1) (1) ((1 : Int32))) (by decide))) ?_
    exact s_some ⟨rfl, (rg_m (rg_b rfl : Rg (1) (1) ((1 : Int32))) (by decide))⟩
set_option maxRecDepth 20000 in
theorem zX15_leave {ρ : Nat → Nat} {c : Cm} {F : Nat} {w_x1 : Nat} (hF : 700000 ≤ F) (hO_x1 : pmO c w_x1 [(62, 999), (13, 2)]) {h : Hp} {x0 : Nat} {x1 : Nat} {x2 : Int32} (o_x1 : cw c x1 = w_x1) (T : TH ρ c h) (r_x0 : ρ x0 = 16) (r_x1 : ρ x1 = 13) (i_x2 : Rg (0) (63) (x2)) : Sat (sX15_leave h x0 x1 x2) (ZV ρ c) := by
  unfold sX15_leave 
  obtain ⟨r_1, e_r_1, q_r_1⟩ := thR T r_x1 (k := 13) (i := 0) (k2 := 62) rfl (by decide)
  refine s_ref e_r_1 ?_
  refine s_gd (by rw [thN T q_r_1 (k := 62) (n := 64) rfl (by decide)]; exact rg_inB (i_x2 : Rg (0) (63) (x2)) (by decide)) ?_
  refine s_hq (th_wI T q_r_1 (k := 62) (lo := (0)) (hi := (24)) rfl ((rg_m (rg_b rfl : Rg (0) (0) ((0 : Int32))) (by decide)) : Rg (0) (24) ((0 : Int32))) (by decide) (by decide) (pm_o hO_x1 (th_ih T r_x1 (k := 13) rfl e_r_1 o_x1) rfl)) (fun h_3 T_1 w_2 => ?_)
  refine s_hq (th_wJ T_1 r_x1 (k := 13) (by decide) (pm_o hO_x1 o_x1 rfl)) (fun h_4 T_3 w_4 => ?_)
  exact s_some (T_3)
set_option maxRecDepth 20000 in
theorem zX15_blast_61 {ρ : Nat → Nat} {c : Cm} {F : Nat} {w_x1 : Nat} (hF : 700000 ≤ F) {k_8 : Hp → Nat → Nat → Int32 → Int32 → Option (Hp)} {C_8 : Int} (hk_8 : ∀ {h : Hp} {x0 : Nat} {x1 : Nat} {x2 : Int32} {x3 : Int32}, cw c x1 = w_x1 → TH ρ c h → ρ x0 = 16 → ρ x1 = 13 → Rg (0) (63) (x2) → Rg (0) (64) (x3) → C_8 < x3.toInt → Sat (k_8 h x0 x1 x2 x3) (ZV ρ c)) (hO_x1 : pmO c w_x1 [(62, 999), (13, 2)]) {h : Hp} {x0 : Nat} {x1 : Nat} {x2 : Int32} {x3 : Int32} {t0 : Int32} (o_x1 : cw c x1 = w_x1) (T : TH ρ c h) (r_x0 : ρ x0 = 16) (r_x1 : ρ x1 = 13) (i_x2 : Rg (0) (63) (x2)) (i_x3 : Rg (0) (63) (x3)) (i_t0 : Rg (0) (1) (t0)) (hc_8 : C_8 ≤ x3.toInt) : Sat (sX15_blast_61 F k_8 h x0 x1 x2 x3 t0) (ZV ρ c) := by
  unfold sX15_blast_61 sX15_blast_105 sX15_manOf
  refine s_br (fun c_1 => ?_) (fun c_1 => ?_)
  · have _ := c_1
    have i_f_2 : Rg (0) (0) (t0) := rg_eq c_1 (rg_b rfl : Rg (0) (0) (0 : Int32))
    refine s_q (fun v_1q1 e_3 => ?_)
    have i_v_1q1 : Rg (1) (64) (v_1q1) := by rw [e_3]; exact (rg_add i_x3 (rg_b rfl : Rg (1) (1) ((1 : Int32))) (by decide) : Rg (1) (64) (x3 + (1 : Int32)))
    have m_4 : (v_1q1).toInt = x3.toInt + 1 := by rw [e_3]; exact rg_inc i_x3 (by decide)
    exact hk_8 o_x1 T r_x0 r_x1 i_x2 (rg_m i_v_1q1 (by decide)) (by have := hc_8; omega)
  · have _ := c_1
    have i_f_5 : Rg (1) (1) (t0) := rg_nlo c_1 i_t0 (rg_b rfl : Rg (0) (0) (0 : Int32))
    obtain ⟨r_2, e_r_2, q_r_2⟩ := thR T r_x1 (k := 13) (i := 0) (k2 := 62) rfl (by decide)
    refine s_ref e_r_2 ?_
    refine s_gd (by rw [thN T q_r_2 (k := 62) (n := 64) rfl (by decide)]; exact rg_inB (i_x3 : Rg (0) (63) (x3)) (by decide)) ?_
    refine s_br (fun c_6 => ?_) (fun c_6 => ?_)
    · have _ := c_6
      have i_f_7 : Rg (0) (0) ((hI h r_2 x3.toNatClampNeg)) := rg_le1 c_6 (thI T q_r_2 (k := 62) rfl : Rg (0) (24) ((hI h r_2 x3.toNatClampNeg))) (rg_b rfl : Rg (0) (0) (0 : Int32))
      refine s_q (fun v_1q2 e_8 => ?_)
      have i_v_1q2 : Rg (1) (64) (v_1q2) := by rw [e_8]; exact (rg_add i_x3 (rg_b rfl : Rg (1) (1) ((1 : Int32))) (by decide) : Rg (1) (64) (x3 + (1 : Int32)))
      have m_9 : (v_1q2).toInt = x3.toInt + 1 := by rw [e_8]; exact rg_inc i_x3 (by decide)
      exact hk_8 o_x1 T r_x0 r_x1 i_x2 (rg_m i_v_1q2 (by decide)) (by have := hc_8; omega)
    · have _ := c_6
      have i_f_10 : Rg (1) (24) ((hI h r_2 x3.toNatClampNeg)) := rg_lt2 (nle_lt c_6) (rg_b rfl : Rg (0) (0) (0 : Int32)) (thI T q_r_2 (k := 62) rfl : Rg (0) (24) ((hI h r_2 x3.toNatClampNeg)))
      obtain ⟨r_5, e_r_5, q_r_5⟩ := thR T r_x0 (k := 16) (i := 4) (k2 := 15) rfl (by decide)
      refine s_ref e_r_5 ?_
      refine s_ref e_r_2 ?_
      refine s_gd (by rw [thN T q_r_2 (k := 62) (n := 64) rfl (by decide)]; exact rg_inB (i_x3 : Rg (0) (63) (x3)) (by decide)) ?_
      refine s_pu (fun o_8z e_11 => ?_)
      try dsimp only
      have i_o_8z : Rg (0) (11) (o_8z) := by rw [e_11]; exact (rg_shrk 1 (by decide) (rg_sub i_f_10 (rg_b rfl : Rg (1) (1) ((1 : Int32))) (by decide) : Rg (0) (23) (((hI h r_2 x3.toNatClampNeg) - (1 : Int32)))) (by decide) : Rg (0) (11) (((hI h r_2 x3.toNatClampNeg) - (1 : Int32)) >>> ((1 : Int32) &&& 31)))
      refine s_br (fun c_12 => ?_) (fun c_12 => ?_)
      · have _ := c_12
        have i_f_13 : Rg (0) (0) ((((hI h r_5 19) >>> (o_8z &&& 31)) &&& (1 : Int32))) := rg_eq c_12 (rg_b rfl : Rg (0) (0) (0 : Int32))
        refine s_cV (zX15_leave hF (pmO_s hO_x1 rfl) o_x1 T r_x0 r_x1 i_x3) (fun o_10 T_14 => ?_)
        refine s_q (fun v_1q3 e_15 => ?_)
        have i_v_1q3 : Rg (1) (64) (v_1q3) := by rw [e_15]; exact (rg_add i_x3 (rg_b rfl : Rg (1) (1) ((1 : Int32))) (by decide) : Rg (1) (64) (x3 + (1 : Int32)))
        have m_16 : (v_1q3).toInt = x3.toInt + 1 := by rw [e_15]; exact rg_inc i_x3 (by decide)
        exact hk_8 o_x1 T_14 r_x0 r_x1 i_x2 (rg_m i_v_1q3 (by decide)) (by have := hc_8; omega)
      · have _ := c_12
        have i_f_17 : Rg (1) (1) ((((hI h r_5 19) >>> (o_8z &&& 31)) &&& (1 : Int32))) := rg_nlo c_12 (rg_and (rg_b rfl : Rg (1) (1) ((1 : Int32))) (by decide) : Rg (0) (1) ((((hI h r_5 19) >>> (o_8z &&& 31)) &&& (1 : Int32)))) (rg_b rfl : Rg (0) (0) (0 : Int32))
        refine s_q (fun v_1q4 e_18 => ?_)
        have i_v_1q4 : Rg (1) (64) (v_1q4) := by rw [e_18]; exact (rg_add i_x3 (rg_b rfl : Rg (1) (1) ((1 : Int32))) (by decide) : Rg (1) (64) (x3 + (1 : Int32)))
        have m_19 : (v_1q4).toInt = x3.toInt + 1 := by rw [e_18]; exact rg_inc i_x3 (by decide)
        exact hk_8 o_x1 T r_x0 r_x1 i_x2 (rg_m i_v_1q4 (by decide)) (by have := hc_8; omega)
