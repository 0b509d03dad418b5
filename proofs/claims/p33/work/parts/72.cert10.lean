set_option maxRecDepth 20000 in
theorem zX15_writeMen_56 {ρ : Nat → Nat} {c : Cm} {F : Nat} {w_x1 : Nat} {u0 : Int} (hF : 700000 ≤ F) {k_8 : Hp → Nat → Nat → Int64 → Int32 → Option (Hp)} {C_8 : Int} {k_19 : Hp → Nat → Nat → Int64 → Int32 → Int32 → Int32 → Option (Hp)} {C_19 : Int} (hk_8 : ∀ {h : Hp} {x0 : Nat} {x1 : Nat} {x2 : Int64} {x4 : Int32}, cw c x1 = w_x1 → TH ρ c h → ρ x0 = 16 → ρ x1 = 13 → Rg (-1) (7) (x4) → (u0 ≤ (hI h x0 3).toInt ∧ u0 ≤ 180 ∧ (hI h x0 3).toInt ≤ u0 + 9 * (7 - x4.toInt)) → x4.toInt < C_8 → Sat (k_8 h x0 x1 x2 x4) (ZQ (ZV ρ c) (fun o => (u0 ≤ (hI o x0 3).toInt) ∧ ((hI o x0 3).toInt ≤ u0 + 72)))) (hk_19 : ∀ {h : Hp} {x0 : Nat} {x1 : Nat} {x2 : Int64} {x4 : Int32} {x5 : Int32} {x6 : Int32}, cw c x1 = w_x1 → TH ρ c h → ρ x0 = 16 → ρ x1 = 13 → Rg (0) (7) (x4) → Rg (0) (8) (x5) → Rg (0) (8) (x6) → x4.toInt ≤ C_8 → (u0 ≤ (hI h x0 3).toInt ∧ u0 ≤ 180 ∧ 0 ≤ x5.toInt ∧ x5.toInt ≤ x6.toInt ∧ (hI h x0 3).toInt + x5.toInt ≤ u0 + 9 * (7 - x4.toInt) + x6.toInt) → C_19 < x6.toInt → Sat (k_19 h x0 x1 x2 x4 x5 x6) (ZQ (ZV ρ c) (fun o => (u0 ≤ (hI o x0 3).toInt) ∧ ((hI o x0 3).toInt ≤ u0 + 72)))) (hA : pmA c [(83, 999), (16, 3)]) {h : Hp} {x0 : Nat} {x1 : Nat} {x2 : Int64} {x4 : Int32} {x5 : Int32} {x6 : Int32} {x7 : Int32} {t0 : Int32} (o_x1 : cw c x1 = w_x1) (T : TH ρ c h) (r_x0 : ρ x0 = 16) (r_x1 : ρ x1 = 13) (i_x4 : Rg (0) (7) (x4)) (i_x5 : Rg (0) (8) (x5)) (i_x6 : Rg (0) (7) (x6)) (i_x7 : Rg (0) (63) (x7)) (i_t0 : Rg (0) (1) (t0)) (hc_8 : x4.toInt ≤ C_8) (hc_19 : C_19 ≤ x6.toInt) (w19 : (u0 ≤ (hI h x0 3).toInt ∧ u0 ≤ 180 ∧ 0 ≤ x5.toInt ∧ x5.toInt ≤ x6.toInt ∧ (hI h x0 3).toInt + x5.toInt ≤ u0 + 9 * (7 - x4.toInt) + x6.toInt)) : Sat (sX15_writeMen_56 F k_8 k_19 h x0 x1 x2 x4 x5 x6 x7 t0) (ZQ (ZV ρ c) (fun o => (u0 ≤ (hI o x0 3).toInt) ∧ ((hI o x0 3).toInt ≤ u0 + 72))) := by
  unfold sX15_writeMen_56 sX15_writeMen_79 sX15_writeMen_118
  refine s_br (fun c_1 => ?_) (fun c_1 => ?_)
  · have _ := c_1
    have i_f_2 : Rg (0) (0) (t0) := rg_eq c_1 (rg_b rfl : Rg (0) (0) (0 : Int32))
    refine s_br (fun c_3 => ?_) (fun c_3 => ?_)
    · have _ := c_3
      have i_f_4 : Rg (0) (0) (x5) := rg_le1 c_3 i_x5 (rg_b rfl : Rg (0) (0) (0 : Int32))
      exact zX15_writeMen_90 hF @hk_8 @hk_19 (pmA_s hA rfl) o_x1 T r_x0 r_x1 i_x4 i_x6 i_x7 (rg_m i_f_2 (by decide)) hc_8 hc_19 (show u0 ≤ (hI h x0 3).toInt ∧ u0 ≤ 180 ∧ (hI h x0 3).toInt ≤ u0 + 9 * (7 - (x4).toInt) + (x6).toInt from (by have := (i_x4 : Rg (0) (7) (x4)).1; have := (i_x4 : Rg (0) (7) (x4)).2; have := (i_x6 : Rg (0) (7) (x6)).1; have := (i_x6 : Rg (0) (7) (x6)).2; have hq_ := ((thI T r_x0 (k := 16) (i := 3) rfl : Rg (0) (256) ((hI h x0 3))) : Rg (0) (256) ((hI h x0 3))); have := hq_.1; have := hq_.2; have := (i_f_4 : Rg (0) (0) (x5)).1; have := (i_f_4 : Rg (0) (0) (x5)).2; have := le_i c_3; have : (0 : Int32).toInt = 0 := rfl; clear o_x1; refine ⟨?_, ?_, ?_⟩ <;> omega)) (Or.inl c_1)
    · have _ := c_3
      have i_f_5 : Rg (1) (8) (x5) := rg_lt2 (nle_lt c_3) (rg_b rfl : Rg (0) (0) (0 : Int32)) i_x5
      refine s_cVfq (S := fS [(83, 999), (16, 3)] []) T (fs_sub (pmA_s hA rfl) fs_n) (zX15_sayNumber hF fs_a (th_in _ T) r_x0 (rg_m i_f_5 (by decide)) (show (hI h x0 3).toInt ≤ 253 from (by have := (i_f_5 : Rg (1) (8) (x5)).1; have := (i_f_5 : Rg (1) (8) (x5)).2; have hq_ := ((thI T r_x0 (k := 16) (i := 3) rfl : Rg (0) (256) ((hI h x0 3))) : Rg (0) (256) ((hI h x0 3))); have := hq_.1; have := hq_.2; have := (i_x4 : Rg (0) (7) (x4)).1; have := (i_x4 : Rg (0) (7) (x4)).2; have := (i_x6 : Rg (0) (7) (x6)).1; have := (i_x6 : Rg (0) (7) (x6)).2; have := nle_i c_3; have : (0 : Int32).toInt = 0 := rfl; clear o_x1; omega))) (fun o_2q1 T_6 f_o_2q1 p_o_2q1 => ?_)
      have pq_o_2q1_0 : ((hI h x0 3).toInt) ≤ (hI o_2q1 x0 3).toInt := p_o_2q1.1
      have pq_o_2q1_1 : (hI o_2q1 x0 3).toInt ≤ ((hI h x0 3).toInt) + 3 := p_o_2q1.2.1
      have pq_o_2q1_2 : ((x5).toInt) ≤ 9 → (hI o_2q1 x0 3).toInt ≤ ((hI h x0 3).toInt) + 1 := p_o_2q1.2.2
      have pf_7 : MnC x1 x7 t0 o_2q1 := (mc_fr T r_x1 f_o_2q1 rfl (fun _ => rfl) (Or.inl c_1))
      exact zX15_writeMen_90 hF @hk_8 @hk_19 (pmA_s hA rfl) o_x1 T_6 r_x0 r_x1 i_x4 i_x6 i_x7 (rg_m i_f_2 (by decide)) hc_8 hc_19 (show u0 ≤ (hI o_2q1 x0 3).toInt ∧ u0 ≤ 180 ∧ (hI o_2q1 x0 3).toInt ≤ u0 + 9 * (7 - (x4).toInt) + (x6).toInt from (by have := (i_x4 : Rg (0) (7) (x4)).1; have := (i_x4 : Rg (0) (7) (x4)).2; have := (i_x6 : Rg (0) (7) (x6)).1; have := (i_x6 : Rg (0) (7) (x6)).2; have hq_ := ((thI T_6 r_x0 (k := 16) (i := 3) rfl : Rg (0) (256) ((hI o_2q1 x0 3))) : Rg (0) (256) ((hI o_2q1 x0 3))); have := hq_.1; have := hq_.2; have hq_ := ((thI T r_x0 (k := 16) (i := 3) rfl : Rg (0) (256) ((hI h x0 3))) : Rg (0) (256) ((hI h x0 3))); have := hq_.1; have := hq_.2; have := (i_f_5 : Rg (1) (8) (x5)).1; have := (i_f_5 : Rg (1) (8) (x5)).2; have := nle_i c_3; have : (0 : Int32).toInt = 0 := rfl; clear o_x1; refine ⟨?_, ?_, ?_⟩ <;> omega)) pf_7
  · have _ := c_1
    have i_f_8 : Rg (1) (1) (t0) := rg_nlo c_1 i_t0 (rg_b rfl : Rg (0) (0) (0 : Int32))
    obtain ⟨r_2, e_r_2, q_r_2⟩ := thR T r_x1 (k := 13) (i := 0) (k2 := 62) rfl (by decide)
    refine s_ref e_r_2 ?_
    refine s_gd (by rw [thN T q_r_2 (k := 62) (n := 64) rfl (by decide)]; exact rg_inB (i_x7 : Rg (0) (63) (x7)) (by decide)) ?_
    refine s_br (fun c_9 => ?_) (fun c_9 => ?_)
    · have _ := c_9
      have i_f_10 : Rg (0) (0) ((hI h r_2 x7.toNatClampNeg)) := rg_eq c_9 (rg_b rfl : Rg (0) (0) (0 : Int32))
      refine s_q (fun v_5 e_11 => ?_)
      have i_v_5 : Rg (1) (9) (v_5) := by rw [e_11]; exact (rg_add i_x5 (rg_b rfl : Rg (1) (1) ((1 : Int32))) (by decide) : Rg (1) (9) (x5 + (1 : Int32)))
      refine s_q (fun v_1q2 e_12 => ?_)
      have i_v_1q2 : Rg (1) (8) (v_1q2) := by rw [e_12]; exact (rg_add i_x6 (rg_b rfl : Rg (1) (1) ((1 : Int32))) (by decide) : Rg (1) (8) (x6 + (1 : Int32)))
      have og_13 : Rg (0) (8) (v_5) := ⟨(by have := (i_v_5 : Rg (1) (9) (v_5)).1; have := (i_v_5 : Rg (1) (9) (v_5)).2; have : (v_5).toInt = (x5 + (1 : Int32) : Int32).toInt := congrArg Int32.toInt e_11; have : (x5 + (1 : Int32) : Int32).toInt = (x5 : Int32).toInt + ((1 : Int32) : Int32).toInt := ti_add (i_x5 : Rg (0) (8) (x5)) ((rg_b rfl : Rg (1) (1) ((1 : Int32))) : Rg (1) (1) ((1 : Int32))) (by decide); have := (i_x5 : Rg (0) (8) (x5)).1; have := (i_x5 : Rg (0) (8) (x5)).2; have : ((1 : Int32)).toInt = 1 := rfl; have hq_ := ((thI T r_x0 (k := 16) (i := 3) rfl : Rg (0) (256) ((hI h x0 3))) : Rg (0) (256) ((hI h x0 3))); have := hq_.1; have := hq_.2; have := (i_x4 : Rg (0) (7) (x4)).1; have := (i_x4 : Rg (0) (7) (x4)).2; have := (i_x6 : Rg (0) (7) (x6)).1; have := (i_x6 : Rg (0) (7) (x6)).2; clear o_x1; omega), (by have := (i_v_5 : Rg (1) (9) (v_5)).1; have := (i_v_5 : Rg (1) (9) (v_5)).2; have : (v_5).toInt = (x5 + (1 : Int32) : Int32).toInt := congrArg Int32.toInt e_11; have : (x5 + (1 : Int32) : Int32).toInt = (x5 : Int32).toInt + ((1 : Int32) : Int32).toInt := ti_add (i_x5 : Rg (0) (8) (x5)) ((rg_b rfl : Rg (1) (1) ((1 : Int32))) : Rg (1) (1) ((1 : Int32))) (by decide); have := (i_x5 : Rg (0) (8) (x5)).1; have := (i_x5 : Rg (0) (8) (x5)).2; have : ((1 : Int32)).toInt = 1 := rfl; have hq_ := ((thI T r_x0 (k := 16) (i := 3) rfl : Rg (0) (256) ((hI h x0 3))) : Rg (0) (256) ((hI h x0 3))); have := hq_.1; have := hq_.2; have := (i_x4 : Rg (0) (7) (x4)).1; have := (i_x4 : Rg (0) (7) (x4)).2; have := (i_x6 : Rg (0) (7) (x6)).1; have := (i_x6 : Rg (0) (7) (x6)).2; clear o_x1; omega)⟩
      have m_14 : (v_1q2).toInt = x6.toInt + 1 := by rw [e_12]; exact rg_inc i_x6 (by decide)
      exact hk_19 o_x1 T r_x0 r_x1 i_x4 og_13 (rg_m i_v_1q2 (by decide)) hc_8 (show u0 ≤ (hI h x0 3).toInt ∧ u0 ≤ 180 ∧ 0 ≤ (v_5).toInt ∧ (v_5).toInt ≤ (v_1q2).toInt ∧ (hI h x0 3).toInt + (v_5).toInt ≤ u0 + 9 * (7 - (x4).toInt) + (v_1q2).toInt from (by have := (i_x4 : Rg (0) (7) (x4)).1; have := (i_x4 : Rg (0) (7) (x4)).2; have := (i_v_5 : Rg (1) (9) (v_5)).1; have := (i_v_5 : Rg (1) (9) (v_5)).2; have : (v_5).toInt = (x5 + (1 : Int32) : Int32).toInt := congrArg Int32.toInt e_11; have : (x5 + (1 : Int32) : Int32).toInt = (x5 : Int32).toInt + ((1 : Int32) : Int32).toInt := ti_add (i_x5 : Rg (0) (8) (x5)) ((rg_b rfl : Rg (1) (1) ((1 : Int32))) : Rg (1) (1) ((1 : Int32))) (by decide); have := (i_x5 : Rg (0) (8) (x5)).1; have := (i_x5 : Rg (0) (8) (x5)).2; have : ((1 : Int32)).toInt = 1 := rfl; have := (i_v_1q2 : Rg (1) (8) (v_1q2)).1; have := (i_v_1q2 : Rg (1) (8) (v_1q2)).2; have : (v_1q2).toInt = (x6 + (1 : Int32) : Int32).toInt := congrArg Int32.toInt e_12; have : (x6 + (1 : Int32) : Int32).toInt = (x6 : Int32).toInt + ((1 : Int32) : Int32).toInt := ti_add (i_x6 : Rg (0) (7) (x6)) ((rg_b rfl : Rg (1) (1) ((1 : Int32))) : Rg (1) (1) ((1 : Int32))) (by decide); have := (i_x6 : Rg (0) (7) (x6)).1; have := (i_x6 : Rg (0) (7) (x6)).2; have hq_ := ((thI T r_x0 (k := 16) (i := 3) rfl : Rg (0) (256) ((hI h x0 3))) : Rg (0) (256) ((hI h x0 3))); have := hq_.1; have := hq_.2; clear o_x1; refine ⟨?_, ?_, ?_, ?_, ?_⟩ <;> omega)) (by have := hc_19; omega)
    · have _ := c_9
      have i_f_15 : Rg (1) (24) ((hI h r_2 x7.toNatClampNeg)) := rg_nlo c_9 (thI T q_r_2 (k := 62) rfl : Rg (0) (24) ((hI h r_2 x7.toNatClampNeg))) (rg_b rfl : Rg (0) (0) (0 : Int32))
      refine s_br (fun c_16 => ?_) (fun c_16 => ?_)
      · have _ := c_16
        have i_f_17 : Rg (0) (0) (x5) := rg_le1 c_16 i_x5 (rg_b rfl : Rg (0) (0) (0 : Int32))
        exact zX15_writeMen_90 hF @hk_8 @hk_19 (pmA_s hA rfl) o_x1 T r_x0 r_x1 i_x4 i_x6 i_x7 (rg_m i_f_8 (by decide)) hc_8 hc_19 (show u0 ≤ (hI h x0 3).toInt ∧ u0 ≤ 180 ∧ (hI h x0 3).toInt ≤ u0 + 9 * (7 - (x4).toInt) + (x6).toInt from (by have := (i_x4 : Rg (0) (7) (x4)).1; have := (i_x4 : Rg (0) (7) (x4)).2; have := (i_x6 : Rg (0) (7) (x6)).1; have := (i_x6 : Rg (0) (7) (x6)).2; have hq_ := ((thI T r_x0 (k := 16) (i := 3) rfl : Rg (0) (256) ((hI h x0 3))) : Rg (0) (256) ((hI h x0 3))); have := hq_.1; have := hq_.2; have := (i_f_17 : Rg (0) (0) (x5)).1; have := (i_f_17 : Rg (0) (0) (x5)).2; have := le_i c_16; have : (0 : Int32).toInt = 0 := rfl; clear o_x1; refine ⟨?_, ?_, ?_⟩ <;> omega)) (Or.inr (fun r hr => by rw [r_eq e_r_2 hr]; exact (i_f_15 : Rg (1) (24) ((hI h r_2 x7.toNatClampNeg))).1))
      · have _ := c_16
        have i_f_18 : Rg (1) (8) (x5) := rg_lt2 (nle_lt c_16) (rg_b rfl : Rg (0) (0) (0 : Int32)) i_x5
        refine s_cVfq (S := fS [(83, 999), (16, 3)] []) T (fs_sub (pmA_s hA rfl) fs_n) (zX15_sayNumber hF fs_a (th_in _ T) r_x0 (rg_m i_f_18 (by decide)) (show (hI h x0 3).toInt ≤ 253 from (by have := (i_f_18 : Rg (1) (8) (x5)).1; have := (i_f_18 : Rg (1) (8) (x5)).2; have hq_ := ((thI T r_x0 (k := 16) (i := 3) rfl : Rg (0) (256) ((hI h x0 3))) : Rg (0) (256) ((hI h x0 3))); have := hq_.1; have := hq_.2; have := (i_x4 : Rg (0) (7) (x4)).1; have := (i_x4 : Rg (0) (7) (x4)).2; have := (i_x6 : Rg (0) (7) (x6)).1; have := (i_x6 : Rg (0) (7) (x6)).2; have := nle_i c_16; have : (0 : Int32).toInt = 0 := rfl; clear o_x1; omega))) (fun o_2q3 T_19 f_o_2q3 p_o_2q3 => ?_)
        have pq_o_2q3_0 : ((hI h x0 3).toInt) ≤ (hI o_2q3 x0 3).toInt := p_o_2q3.1
        have pq_o_2q3_1 : (hI o_2q3 x0 3).toInt ≤ ((hI h x0 3).toInt) + 3 := p_o_2q3.2.1
        have pq_o_2q3_2 : ((x5).toInt) ≤ 9 → (hI o_2q3 x0 3).toInt ≤ ((hI h x0 3).toInt) + 1 := p_o_2q3.2.2
        have pf_20 : MnC x1 x7 t0 o_2q3 := (mc_fr T r_x1 f_o_2q3 rfl (fun _ => rfl) (Or.inr (fun r hr => by rw [r_eq e_r_2 hr]; exact (i_f_15 : Rg (1) (24) ((hI h r_2 x7.toNatClampNeg))).1)))
        exact zX15_writeMen_90 hF @hk_8 @hk_19 (pmA_s hA rfl) o_x1 T_19 r_x0 r_x1 i_x4 i_x6 i_x7 (rg_m i_f_8 (by decide)) hc_8 hc_19 (show u0 ≤ (hI o_2q3 x0 3).toInt ∧ u0 ≤ 180 ∧ (hI o_2q3 x0 3).toInt ≤ u0 + 9 * (7 - (x4).toInt) + (x6).toInt from (by have := (i_x4 : Rg (0) (7) (x4)).1; have := (i_x4 : Rg (0) (7) (x4)).2; have := (i_x6 : Rg (0) (7) (x6)).1; have := (i_x6 : Rg (0) (7) (x6)).2; have hq_ := ((thI T_19 r_x0 (k := 16) (i := 3) rfl : Rg (0) (256) ((hI o_2q3 x0 3))) : Rg (0) (256) ((hI o_2q3 x0 3))); have := hq_.1; have := hq_.2; have hq_ := ((thI T r_x0 (k := 16) (i := 3) rfl : Rg (0) (256) ((hI h x0 3))) : Rg (0) (256) ((hI h x0 3))); have := hq_.1; have := hq_.2; have := (i_f_18 : Rg (1) (8) (x5)).1; have := (i_f_18 : Rg (1) (8) (x5)).2; have := nle_i c_16; have : (0 : Int32).toInt = 0 := rfl; clear o_x1; refine ⟨?_, ?_, ?_⟩ <;> omega)) pf_20
set_option maxRecDepth 20000 in
theorem zX15_writeMen_19 {ρ : Nat → Nat} {c : Cm} {F : Nat} {w_x1 : Nat} {u0 : Int} (hF : 700000 ≤ F) {k_8 : Hp → Nat → Nat → Int64 → Int32 → Option (Hp)} {C_8 : Int} (hk_8 : ∀ {h : Hp} {x0 : Nat} {x1 : Nat} {x2 : Int64} {x4 : Int32}, cw c x1 = w_x1 → TH ρ c h → ρ x0 = 16 → ρ x1 = 13 → Rg (-1) (7) (x4) → (u0 ≤ (hI h x0 3).toInt ∧ u0 ≤ 180 ∧ (hI h x0 3).toInt ≤ u0 + 9 * (7 - x4.toInt)) → x4.toInt < C_8 → Sat (k_8 h x0 x1 x2 x4) (ZQ (ZV ρ c) (fun o => (u0 ≤ (hI o x0 3).toInt) ∧ ((hI o x0 3).toInt ≤ u0 + 72)))) (hA : pmA c [(83, 999), (16, 3)]) : ∀ (f : Nat) {h : Hp} {x0 : Nat} {x1 : Nat} {x2 : Int64} {x4 : Int32} {x5 : Int32} {x6 : Int32}, cw c x1 = w_x1 → TH ρ c h → ρ x0 = 16 → ρ x1 = 13 → Rg (0) (7) (x4) → Rg (0) (8) (x5) → Rg (0) (8) (x6) → x4.toInt ≤ C_8 → (u0 ≤ (hI h x0 3).toInt ∧ u0 ≤ 180 ∧ 0 ≤ x5.toInt ∧ x5.toInt ≤ x6.toInt ∧ (hI h x0 3).toInt + x5.toInt ≤ u0 + 9 * (7 - x4.toInt) + x6.toInt) → (8 - x6.toInt).toNat < f → Sat (sX15_writeMen_19 F k_8 f h x0 x1 x2 x4 x5 x6) (ZQ (ZV ρ c) (fun o => (u0 ≤ (hI o x0 3).toInt) ∧ ((hI o x0 3).toInt ≤ u0 + 72))) := by
  intro f
  induction f with
  | zero => intros; omega
  | succ f ih =>
    intro h x0 x1 x2 x4 x5 x6 o_x1 T r_x0 r_x1 i_x4 i_x5 i_x6 hc_8 w19 hm
    rw [sX15_writeMen_19]
    unfold sX15_writeMen_135 sX15_writeMen_146
    obtain ⟨C_19, hC_19⟩ : ∃ C : Int, C = x6.toInt := ⟨_, rfl⟩
    have hk_19 : ∀ {h : Hp} {x0 : Nat} {x1 : Nat} {x2 : Int64} {x4 : Int32} {x5 : Int32} {x6 : Int32}, cw c x1 = w_x1 → TH ρ c h → ρ x0 = 16 → ρ x1 = 13 → Rg (0) (7) (x4) → Rg (0) (8) (x5) → Rg (0) (8) (x6) → x4.toInt ≤ C_8 → (u0 ≤ (hI h x0 3).toInt ∧ u0 ≤ 180 ∧ 0 ≤ x5.toInt ∧ x5.toInt ≤ x6.toInt ∧ (hI h x0 3).toInt + x5.toInt ≤ u0 + 9 * (7 - x4.toInt) + x6.toInt) → C_19 < x6.toInt → Sat (sX15_writeMen_19 F k_8 f h x0 x1 x2 x4 x5 x6) (ZQ (ZV ρ c) (fun o => (u0 ≤ (hI o x0 3).toInt) ∧ ((hI o x0 3).toInt ≤ u0 + 72))) := by
      intro h' x0' x1' x2' x4' x5' x6' o_x1' T' r_x0' r_x1' i_x4' i_x5' i_x6' hc_8' w19' hl
      exact ih o_x1' T' r_x0' r_x1' i_x4' i_x5' i_x6' hc_8' w19' (by have := i_x6'.1; have := i_x6'.2; omega)
    have hc_19 : C_19 ≤ x6.toInt := by omega
    refine s_br (fun c_1 => ?_) (fun c_1 => ?_)
    · have _ := c_1
      have i_f_2 : Rg (3) (8) (x6) := rg_le2 c_1 (thI T r_x0 (k := 16) (i := 11) rfl : Rg (3) (8) ((hI h x0 11))) i_x6
      refine s_br (fun c_3 => ?_) (fun c_3 => ?_)
      · have _ := c_3
        have i_f_4 : Rg (0) (0) (x5) := rg_le1 c_3 i_x5 (rg_b rfl : Rg (0) (0) (0 : Int32))
        refine s_br (fun c_5 => ?_) (fun c_5 => ?_)
        · have _ := c_5
          have i_f_6 : Rg (0) (0) (x4) := rg_le1 c_5 i_x4 (rg_b rfl : Rg (0) (0) (0 : Int32))
          refine s_q (fun v_1q2 e_7 => ?_)
          have i_v_1q2 : Rg (-1) (-1) (v_1q2) := by rw [e_7]; exact (rg_add i_f_6 (rg_b rfl : Rg (-1) (-1) ((- 1 : Int32))) (by decide) : Rg (-1) (-1) (x4 + (- 1 : Int32)))
          have m_8 : (v_1q2).toInt = x4.toInt - 1 := by rw [e_7]; exact rg_dec i_f_6 (by decide)
          exact hk_8 o_x1 T r_x0 r_x1 (rg_m i_v_1q2 (by decide)) (wm_step w19 ((rg_m i_f_2 (by decide)) : Rg (0) (8) (x6)).2 (show (hI h x0 3).toInt ≤ (hI h x0 3).toInt from (by have hq_ := ((thI T r_x0 (k := 16) (i := 3) rfl : Rg (0) (256) ((hI h x0 3))) : Rg (0) (256) ((hI h x0 3))); have := hq_.1; have := hq_.2; have := (i_f_6 : Rg (0) (0) (x4)).1; have := (i_f_6 : Rg (0) (0) (x4)).2; have := (i_f_4 : Rg (0) (0) (x5)).1; have := (i_f_4 : Rg (0) (0) (x5)).2; have := (i_f_2 : Rg (3) (8) (x6)).1; have := (i_f_2 : Rg (3) (8) (x6)).2; have := le_i c_1; have hq_ := ((thI T r_x0 (k := 16) (i := 11) rfl : Rg (3) (8) ((hI h x0 11))) : Rg (3) (8) ((hI h x0 11))); have := hq_.1; have := hq_.2; have := le_i c_3; have : (0 : Int32).toInt = 0 := rfl; have := le_i c_5; clear o_x1; omega)) (show (hI h x0 3).toInt ≤ (hI h x0 3).toInt + x5.toInt + 1 from (by have hq_ := ((thI T r_x0 (k := 16) (i := 3) rfl : Rg (0) (256) ((hI h x0 3))) : Rg (0) (256) ((hI h x0 3))); have := hq_.1; have := hq_.2; have := (i_f_4 : Rg (0) (0) (x5)).1; have := (i_f_4 : Rg (0) (0) (x5)).2; have := (i_f_6 : Rg (0) (0) (x4)).1; have := (i_f_6 : Rg (0) (0) (x4)).2; have := (i_f_2 : Rg (3) (8) (x6)).1; have := (i_f_2 : Rg (3) (8) (x6)).2; have := le_i c_1; have hq_ := ((thI T r_x0 (k := 16) (i := 11) rfl : Rg (3) (8) ((hI h x0 11))) : Rg (3) (8) ((hI h x0 11))); have := hq_.1; have := hq_.2; have := le_i c_3; have : (0 : Int32).toInt = 0 := rfl; have := le_i c_5; clear o_x1; omega)) (show (v_1q2).toInt = x4.toInt - 1 from (by have := (i_v_1q2 : Rg (-1) (-1) (v_1q2)).1; have := (i_v_1q2 : Rg (-1) (-1) (v_1q2)).2; have : (v_1q2).toInt = (x4 + (- 1 : Int32) : Int32).toInt := congrArg Int32.toInt e_7; have : (x4 + (- 1 : Int32) : Int32).toInt = (x4 : Int32).toInt + ((- 1 : Int32) : Int32).toInt := ti_add (i_f_6 : Rg (0) (0) (x4)) ((rg_b rfl : Rg (-1) (-1) ((- 1 : Int32))) : Rg (-1) (-1) ((- 1 : Int32))) (by decide); have := (i_f_6 : Rg (0) (0) (x4)).1; have := (i_f_6 : Rg (0) (0) (x4)).2; have : ((- 1 : Int32)).toInt = -1 := rfl; have hq_ := ((thI T r_x0 (k := 16) (i := 3) rfl : Rg (0) (256) ((hI h x0 3))) : Rg (0) (256) ((hI h x0 3))); have := hq_.1; have := hq_.2; have := (i_f_4 : Rg (0) (0) (x5)).1; have := (i_f_4 : Rg (0) (0) (x5)).2; have := (i_f_2 : Rg (3) (8) (x6)).1; have := (i_f_2 : Rg (3) (8) (x6)).2; have := le_i c_1; have hq_ := ((thI T r_x0 (k := 16) (i := 11) rfl : Rg (3) (8) ((hI h x0 11))) : Rg (3) (8) ((hI h x0 11))); have := hq_.1; have := hq_.2; have := le_i c_3; have : (0 : Int32).toInt = 0 := rfl; have := le_i c_5; clear o_x1; omega))) (by have := hc_8; omega)
        · have _ := c_5
          have i_f_9 : Rg (1) (7) (x4) := rg_lt2 (nle_lt c_5) (rg_b rfl : Rg (0) (0) (0 : Int32)) i_x4
          refine s_cVq (zX15_say hF (pmA_s hA rfl) T r_x0 (rg_m (rg_b rfl : Rg (47) (47) ((47 : Int32))) (by decide)) (show (hI h x0 3).toInt ≤ 255 from (by have : ((47 : Int32)).toInt = 47 := rfl; have hq_ := ((thI T r_x0 (k := 16) (i := 3) rfl : Rg (0) (256) ((hI h x0 3))) : Rg (0) (256) ((hI h x0 3))); have := hq_.1; have := hq_.2; have := (i_f_9 : Rg (1) (7) (x4)).1; have := (i_f_9 : Rg (1) (7) (x4)).2; have := (i_f_4 : Rg (0) (0) (x5)).1; have := (i_f_4 : Rg (0) (0) (x5)).2; have := (i_f_2 : Rg (3) (8) (x6)).1; have := (i_f_2 : Rg (3) (8) (x6)).2; have := le_i c_1; have hq_ := ((thI T r_x0 (k := 16) (i := 11) rfl : Rg (3) (8) ((hI h x0 11))) : Rg (3) (8) ((hI h x0 11))); have := hq_.1; have := hq_.2; have := le_i c_3; have : (0 : Int32).toInt = 0 := rfl; have := nle_i c_5; clear o_x1; omega))) (fun o_2q1 T_10 p_o_2q1 => ?_)
          have pq_o_2q1_0 : ((hI h x0 3).toInt) ≤ (hI o_2q1 x0 3).toInt := p_o_2q1.1
          have pq_o_2q1_1 : (hI o_2q1 x0 3).toInt ≤ ((hI h x0 3).toInt) + 1 := p_o_2q1.2
          refine s_q (fun v_1q3 e_11 => ?_)
          have i_v_1q3 : Rg (0) (6) (v_1q3) := by rw [e_11]; exact (rg_add i_f_9 (rg_b rfl : Rg (-1) (-1) ((- 1 : Int32))) (by decide) : Rg (0) (6) (x4 + (- 1 : Int32)))
          have m_12 : (v_1q3).toInt = x4.toInt - 1 := by rw [e_11]; exact rg_dec i_f_9 (by decide)
          exact hk_8 o_x1 T_10 r_x0 r_x1 (rg_m i_v_1q3 (by decide)) (wm_step w19 ((rg_m i_f_2 (by decide)) : Rg (0) (8) (x6)).2 (show (hI h x0 3).toInt ≤ (hI o_2q1 x0 3).toInt from (by have hq_ := ((thI T r_x0 (k := 16) (i := 3) rfl : Rg (0) (256) ((hI h x0 3))) : Rg (0) (256) ((hI h x0 3))); have := hq_.1; have := hq_.2; have hq_ := ((thI T_10 r_x0 (k := 16) (i := 3) rfl : Rg (0) (256) ((hI o_2q1 x0 3))) : Rg (0) (256) ((hI o_2q1 x0 3))); have := hq_.1; have := hq_.2; have := (i_f_9 : Rg (1) (7) (x4)).1; have := (i_f_9 : Rg (1) (7) (x4)).2; have := (i_f_4 : Rg (0) (0) (x5)).1; have := (i_f_4 : Rg (0) (0) (x5)).2; have := (i_f_2 : Rg (3) (8) (x6)).1; have := (i_f_2 : Rg (3) (8) (x6)).2; have := le_i c_1; have hq_ := ((thI T r_x0 (k := 16) (i := 11) rfl : Rg (3) (8) ((hI h x0 11))) : Rg (3) (8) ((hI h x0 11))); have := hq_.1; have := hq_.2; have := le_i c_3; have : (0 : Int32).toInt = 0 := rfl; have := nle_i c_5; clear o_x1; omega)) (show (hI o_2q1 x0 3).toInt ≤ (hI h x0 3).toInt + x5.toInt + 1 from (by have hq_ := ((thI T_10 r_x0 (k := 16) (i := 3) rfl : Rg (0) (256) ((hI o_2q1 x0 3))) : Rg (0) (256) ((hI o_2q1 x0 3))); have := hq_.1; have := hq_.2; have hq_ := ((thI T r_x0 (k := 16) (i := 3) rfl : Rg (0) (256) ((hI h x0 3))) : Rg (0) (256) ((hI h x0 3))); have := hq_.1; have := hq_.2; have := (i_f_4 : Rg (0) (0) (x5)).1; have := (i_f_4 : Rg (0) (0) (x5)).2; have := (i_f_9 : Rg (1) (7) (x4)).1; have := (i_f_9 : Rg (1) (7) (x4)).2; have := (i_f_2 : Rg (3) (8) (x6)).1; have := (i_f_2 : Rg (3) (8) (x6)).2; have := le_i c_1; have hq_ := ((thI T r_x0 (k := 16) (i := 11) rfl : Rg (3) (8) ((hI h x0 11))) : Rg (3) (8) ((hI h x0 11))); have := hq_.1; have := hq_.2; have := le_i c_3; have : (0 : Int32).toInt = 0 := rfl; have := nle_i c_5; clear o_x1; omega)) (show (v_1q3).toInt = x4.toInt - 1 from (by have := (i_v_1q3 : Rg (0) (6) (v_1q3)).1; have := (i_v_1q3 : Rg (0) (6) (v_1q3)).2; have : (v_1q3).toInt = (x4 + (- 1 : Int32) : Int32).toInt := congrArg Int32.toInt e_11; have : (x4 + (- 1 : Int32) : Int32).toInt = (x4 : Int32).toInt + ((- 1 : Int32) : Int32).toInt := ti_add (i_f_9 : Rg (1) (7) (x4)) ((rg_b rfl : Rg (-1) (-1) ((- 1 : Int32))) : Rg (-1) (-1) ((- 1 : Int32))) (by decide); have := (i_f_9 : Rg (1) (7) (x4)).1; have := (i_f_9 : Rg (1) (7) (x4)).2; have : ((- 1 : Int32)).toInt = -1 := rfl; have hq_ := ((thI T r_x0 (k := 16) (i := 3) rfl : Rg (0) (256) ((hI h x0 3))) : Rg (0) (256) ((hI h x0 3))); have := hq_.1; have := hq_.2; have hq_ := ((thI T_10 r_x0 (k := 16) (i := 3) rfl : Rg (0) (256) ((hI o_2q1 x0 3))) : Rg (0) (256) ((hI o_2q1 x0 3))); have := hq_.1; have := hq_.2; have := (i_f_4 : Rg (0) (0) (x5)).1; have := (i_f_4 : Rg (0) (0) (x5)).2; have := (i_f_2 : Rg (3) (8) (x6)).1; have := (i_f_2 : Rg (3) (8) (x6)).2; have := le_i c_1; have hq_ := ((thI T r_x0 (k := 16) (i := 11) rfl : Rg (3) (8) ((hI h x0 11))) : Rg (3) (8) ((hI h x0 11))); have := hq_.1; have := hq_.2; have := le_i c_3; have : (0 : Int32).toInt = 0 := rfl; have := nle_i c_5; clear o_x1; omega))) (by have := hc_8; omega)
      · have _ := c_3
        have i_f_13 : Rg (1) (8) (x5) := rg_lt2 (nle_lt c_3) (rg_b rfl : Rg (0) (0) (0 : Int32)) i_x5
        refine s_cVq (zX15_sayNumber hF (pmA_s hA rfl) T r_x0 (rg_m i_f_13 (by decide)) (show (hI h x0 3).toInt ≤ 253 from (by have := (i_f_13 : Rg (1) (8) (x5)).1; have := (i_f_13 : Rg (1) (8) (x5)).2; have hq_ := ((thI T r_x0 (k := 16) (i := 3) rfl : Rg (0) (256) ((hI h x0 3))) : Rg (0) (256) ((hI h x0 3))); have := hq_.1; have := hq_.2; have := (i_x4 : Rg (0) (7) (x4)).1; have := (i_x4 : Rg (0) (7) (x4)).2; have := (i_f_2 : Rg (3) (8) (x6)).1; have := (i_f_2 : Rg (3) (8) (x6)).2; have := le_i c_1; have hq_ := ((thI T r_x0 (k := 16) (i := 11) rfl : Rg (3) (8) ((hI h x0 11))) : Rg (3) (8) ((hI h x0 11))); have := hq_.1; have := hq_.2; have := nle_i c_3; have : (0 : Int32).toInt = 0 := rfl; clear o_x1; omega))) (fun o_3 T_14 p_o_3 => ?_)
        have pq_o_3_0 : ((hI h x0 3).toInt) ≤ (hI o_3 x0 3).toInt := p_o_3.1
        have pq_o_3_1 : (hI o_3 x0 3).toInt ≤ ((hI h x0 3).toInt) + 3 := p_o_3.2.1
        have pq_o_3_2 : ((x5).toInt) ≤ 9 → (hI o_3 x0 3).toInt ≤ ((hI h x0 3).toInt) + 1 := p_o_3.2.2
        refine s_br (fun c_15 => ?_) (fun c_15 => ?_)
        · have _ := c_15
          have i_f_16 : Rg (0) (0) (x4) := rg_le1 c_15 i_x4 (rg_b rfl : Rg (0) (0) (0 : Int32))
          refine s_q (fun v_1q5 e_17 => ?_)
          have i_v_1q5 : Rg (-1) (-1) (v_1q5) := by rw [e_17]; exact (rg_add i_f_16 (rg_b rfl : Rg (-1) (-1) ((- 1 : Int32))) (by decide) : Rg (-1) (-1) (x4 + (- 1 : Int32)))
          have m_18 : (v_1q5).toInt = x4.toInt - 1 := by rw [e_17]; exact rg_dec i_f_16 (by decide)
          exact hk_8 o_x1 T_14 r_x0 r_x1 (rg_m i_v_1q5 (by decide)) (wm_step w19 ((rg_m i_f_2 (by decide)) : Rg (0) (8) (x6)).2 (show (hI h x0 3).toInt ≤ (hI o_3 x0 3).toInt from (by have hq_ := ((thI T r_x0 (k := 16) (i := 3) rfl : Rg (0) (256) ((hI h x0 3))) : Rg (0) (256) ((hI h x0 3))); have := hq_.1; have := hq_.2; have hq_ := ((thI T_14 r_x0 (k := 16) (i := 3) rfl : Rg (0) (256) ((hI o_3 x0 3))) : Rg (0) (256) ((hI o_3 x0 3))); have := hq_.1; have := hq_.2; have := (i_f_13 : Rg (1) (8) (x5)).1; have := (i_f_13 : Rg (1) (8) (x5)).2; have := (i_f_16 : Rg (0) (0) (x4)).1; have := (i_f_16 : Rg (0) (0) (x4)).2; have := (i_f_2 : Rg (3) (8) (x6)).1; have := (i_f_2 : Rg (3) (8) (x6)).2; have := le_i c_1; have hq_ := ((thI T r_x0 (k := 16) (i := 11) rfl : Rg (3) (8) ((hI h x0 11))) : Rg (3) (8) ((hI h x0 11))); have := hq_.1; have := hq_.2; have := nle_i c_3; have : (0 : Int32).toInt = 0 := rfl; have := le_i c_15; clear o_x1; omega)) (show (hI o_3 x0 3).toInt ≤ (hI h x0 3).toInt + x5.toInt + 1 from (by have hq_ := ((thI T_14 r_x0 (k := 16) (i := 3) rfl : Rg (0) (256) ((hI o_3 x0 3))) : Rg (0) (256) ((hI o_3 x0 3))); have := hq_.1; have := hq_.2; have hq_ := ((thI T r_x0 (k := 16) (i := 3) rfl : Rg (0) (256) ((hI h x0 3))) : Rg (0) (256) ((hI h x0 3))); have := hq_.1; have := hq_.2; have := (i_f_13 : Rg (1) (8) (x5)).1; have := (i_f_13 : Rg (1) (8) (x5)).2; have := (i_f_16 : Rg (0) (0) (x4)).1; have := (i_f_16 : Rg (0) (0) (x4)).2; have := (i_f_2 : Rg (3) (8) (x6)).1; have := (i_f_2 : Rg (3) (8) (x6)).2; have := le_i c_1; have hq_ := ((thI T r_x0 (k := 16) (i := 11) rfl : Rg (3) (8) ((hI h x0 11))) : Rg (3) (8) ((hI h x0 11))); have := hq_.1; have := hq_.2; have := nle_i c_3; have : (0 : Int32).toInt = 0 := rfl; have := le_i c_15; clear o_x1; omega)) (show (v_1q5).toInt = x4.toInt - 1 from (by have := (i_v_1q5 : Rg (-1) (-1) (v_1q5)).1; have := (i_v_1q5 : Rg (-1) (-1) (v_1q5)).2; have : (v_1q5).toInt = (x4 + (- 1 : Int32) : Int32).toInt := congrArg Int32.toInt e_17; have : (x4 + (- 1 : Int32) : Int32).toInt = (x4 : Int32).toInt + ((- 1 : Int32) : Int32).toInt := ti_add (i_f_16 : Rg (0) (0) (x4)) ((rg_b rfl : Rg (-1) (-1) ((- 1 : Int32))) : Rg (-1) (-1) ((- 1 : Int32))) (by decide); have := (i_f_16 : Rg (0) (0) (x4)).1; have := (i_f_16 : Rg (0) (0) (x4)).2; have : ((- 1 : Int32)).toInt = -1 := rfl; have hq_ := ((thI T r_x0 (k := 16) (i := 3) rfl : Rg (0) (256) ((hI h x0 3))) : Rg (0) (256) ((hI h x0 3))); have := hq_.1; have := hq_.2; have hq_ := ((thI T_14 r_x0 (k := 16) (i := 3) rfl : Rg (0) (256) ((hI o_3 x0 3))) : Rg (0) (256) ((hI o_3 x0 3))); have := hq_.1; have := hq_.2; have := (i_f_13 : Rg (1) (8) (x5)).1; have := (i_f_13 : Rg (1) (8) (x5)).2; have := (i_f_2 : Rg (3) (8) (x6)).1; have := (i_f_2 : Rg (3) (8) (x6)).2; have := le_i c_1; have hq_ := ((thI T r_x0 (k := 16) (i := 11) rfl : Rg (3) (8) ((hI h x0 11))) : Rg (3) (8) ((hI h x0 11))); have := hq_.1; have := hq_.2; have := nle_i c_3; have : (0 : Int32).toInt = 0 := rfl; have := le_i c_15; clear o_x1; omega))) (by have := hc_8; omega)
        · have _ := c_15
          have i_f_19 : Rg (1) (7) (x4) := rg_lt2 (nle_lt c_15) (rg_b rfl : Rg (0) (0) (0 : Int32)) i_x4
          refine s_cVq (zX15_say hF (pmA_s hA rfl) T_14 r_x0 (rg_m (rg_b rfl : Rg (47) (47) ((47 : Int32))) (by decide)) (show (hI o_3 x0 3).toInt ≤ 255 from (by have : ((47 : Int32)).toInt = 47 := rfl; have hq_ := ((thI T_14 r_x0 (k := 16) (i := 3) rfl : Rg (0) (256) ((hI o_3 x0 3))) : Rg (0) (256) ((hI o_3 x0 3))); have := hq_.1; have := hq_.2; have hq_ := ((thI T r_x0 (k := 16) (i := 3) rfl : Rg (0) (256) ((hI h x0 3))) : Rg (0) (256) ((hI h x0 3))); have := hq_.1; have := hq_.2; have := (i_f_13 : Rg (1) (8) (x5)).1; have := (i_f_13 : Rg (1) (8) (x5)).2; have := (i_f_19 : Rg (1) (7) (x4)).1; have := (i_f_19 : Rg (1) (7) (x4)).2; have := (i_f_2 : Rg (3) (8) (x6)).1; have := (i_f_2 : Rg (3) (8) (x6)).2; have := le_i c_1; have hq_ := ((thI T r_x0 (k := 16) (i := 11) rfl : Rg (3) (8) ((hI h x0 11))) : Rg (3) (8) ((hI h x0 11))); have := hq_.1; have := hq_.2; have := nle_i c_3; have : (0 : Int32).toInt = 0 := rfl; have := nle_i c_15; clear o_x1; omega))) (fun o_2q4 T_20 p_o_2q4 => ?_)
          have pq_o_2q4_0 : ((hI o_3 x0 3).toInt) ≤ (hI o_2q4 x0 3).toInt := p_o_2q4.1
          have pq_o_2q4_1 : (hI o_2q4 x0 3).toInt ≤ ((hI o_3 x0 3).toInt) + 1 := p_o_2q4.2
          refine s_q (fun v_1q6 e_21 => ?_)
          have i_v_1q6 : Rg (0) (6) (v_1q6) := by rw [e_21]; exact (rg_add i_f_19 (rg_b rfl : Rg (-1) (-1) ((- 1 : Int32))) (by decide) : Rg (0) (6) (x4 + (- 1 : Int32)))
          have m_22 : (v_1q6).toInt = x4.toInt - 1 := by rw [e_21]; exact rg_dec i_f_19 (by decide)
          exact hk_8 o_x1 T_20 r_x0 r_x1 (rg_m i_v_1q6 (by decide)) (wm_step w19 ((rg_m i_f_2 (by decide)) : Rg (0) (8) (x6)).2 (show (hI h x0 3).toInt ≤ (hI o_2q4 x0 3).toInt from (by have hq_ := ((thI T r_x0 (k := 16) (i := 3) rfl : Rg (0) (256) ((hI h x0 3))) : Rg (0) (256) ((hI h x0 3))); have := hq_.1; have := hq_.2; have hq_ := ((thI T_20 r_x0 (k := 16) (i := 3) rfl : Rg (0) (256) ((hI o_2q4 x0 3))) : Rg (0) (256) ((hI o_2q4 x0 3))); have := hq_.1; have := hq_.2; have hq_ := ((thI T_14 r_x0 (k := 16) (i := 3) rfl : Rg (0) (256) ((hI o_3 x0 3))) : Rg (0) (256) ((hI o_3 x0 3))); have := hq_.1; have := hq_.2; have := (i_f_13 : Rg (1) (8) (x5)).1; have := (i_f_13 : Rg (1) (8) (x5)).2; have := (i_f_19 : Rg (1) (7) (x4)).1; have := (i_f_19 : Rg (1) (7) (x4)).2; have := (i_f_2 : Rg (3) (8) (x6)).1; have := (i_f_2 : Rg (3) (8) (x6)).2; have := le_i c_1; have hq_ := ((thI T r_x0 (k := 16) (i := 11) rfl : Rg (3) (8) ((hI h x0 11))) : Rg (3) (8) ((hI h x0 11))); have := hq_.1; have := hq_.2; have := nle_i c_3; have : (0 : Int32).toInt = 0 := rfl; have := nle_i c_15; clear o_x1; omega)) (show (hI o_2q4 x0 3).toInt ≤ (hI h x0 3).toInt + x5.toInt + 1 from (by have hq_ := ((thI T_20 r_x0 (k := 16) (i := 3) rfl : Rg (0) (256) ((hI o_2q4 x0 3))) : Rg (0) (256) ((hI o_2q4 x0 3))); have := hq_.1; have := hq_.2; have hq_ := ((thI T r_x0 (k := 16) (i := 3) rfl : Rg (0) (256) ((hI h x0 3))) : Rg (0) (256) ((hI h x0 3))); have := hq_.1; have := hq_.2; have := (i_f_13 : Rg (1) (8) (x5)).1; have := (i_f_13 : Rg (1) (8) (x5)).2; have hq_ := ((thI T_14 r_x0 (k := 16) (i := 3) rfl : Rg (0) (256) ((hI o_3 x0 3))) : Rg (0) (256) ((hI o_3 x0 3))); have := hq_.1; have := hq_.2; have := (i_f_19 : Rg (1) (7) (x4)).1; have := (i_f_19 : Rg (1) (7) (x4)).2; have := (i_f_2 : Rg (3) (8) (x6)).1; have := (i_f_2 : Rg (3) (8) (x6)).2; have := le_i c_1; have hq_ := ((thI T r_x0 (k := 16) (i := 11) rfl : Rg (3) (8) ((hI h x0 11))) : Rg (3) (8) ((hI h x0 11))); have := hq_.1; have := hq_.2; have := nle_i c_3; have : (0 : Int32).toInt = 0 := rfl; have := nle_i c_15; clear o_x1; omega)) (show (v_1q6).toInt = x4.toInt - 1 from (by have := (i_v_1q6 : Rg (0) (6) (v_1q6)).1; have := (i_v_1q6 : Rg (0) (6) (v_1q6)).2; have : (v_1q6).toInt = (x4 + (- 1 : Int32) : Int32).toInt := congrArg Int32.toInt e_21; have : (x4 + (- 1 : Int32) : Int32).toInt = (x4 : Int32).toInt + ((- 1 : Int32) : Int32).toInt := ti_add (i_f_19 : Rg (1) (7) (x4)) ((rg_b rfl : Rg (-1) (-1) ((- 1 : Int32))) : Rg (-1) (-1) ((- 1 : Int32))) (by decide); have := (i_f_19 : Rg (1) (7) (x4)).1; have := (i_f_19 : Rg (1) (7) (x4)).2; have : ((- 1 : Int32)).toInt = -1 := rfl; have hq_ := ((thI T_14 r_x0 (k := 16) (i := 3) rfl : Rg (0) (256) ((hI o_3 x0 3))) : Rg (0) (256) ((hI o_3 x0 3))); have := hq_.1; have := hq_.2; have hq_ := ((thI T_20 r_x0 (k := 16) (i := 3) rfl : Rg (0) (256) ((hI o_2q4 x0 3))) : Rg (0) (256) ((hI o_2q4 x0 3))); have := hq_.1; have := hq_.2; have hq_ := ((thI T r_x0 (k := 16) (i := 3) rfl : Rg (0) (256) ((hI h x0 3))) : Rg (0) (256) ((hI h x0 3))); have := hq_.1; have := hq_.2; have := (i_f_13 : Rg (1) (8) (x5)).1; have := (i_f_13 : Rg (1) (8) (x5)).2; have := (i_f_2 : Rg (3) (8) (x6)).1; have := (i_f_2 : Rg (3) (8) (x6)).2; have := le_i c_1; have hq_ := ((thI T r_x0 (k := 16) (i := 11) rfl : Rg (3) (8) ((hI h x0 11))) : Rg (3) (8) ((hI h x0 11))); have := hq_.1; have := hq_.2; have := nle_i c_3; have : (0 : Int32).toInt = 0 := rfl; have := nle_i c_15; clear o_x1; omega))) (by have := hc_8; omega)
    · have _ := c_1
      have i_f_23 : Rg (0) (7) (x6) := rg_lt1 (nle_lt c_1) i_x6 (thI T r_x0 (k := 16) (i := 11) rfl : Rg (3) (8) ((hI h x0 11)))
      refine s_q (fun v_4 e_24 => ?_)
      have i_v_4 : Rg (0) (63) (v_4) := by rw [e_24]; exact (rg_add (rg_mul i_x4 (thI T r_x0 (k := 16) (i := 11) rfl : Rg (3) (8) ((hI h x0 11))) (by decide) : Rg (0) (56) ((x4 * (hI h x0 11)))) i_f_23 (by decide) : Rg (0) (63) ((x4 * (hI h x0 11)) + x6))
      refine s_br (fun c_25 => ?_) (fun c_25 => ?_)
      · have _ := c_25
        exact zX15_writeMen_56 hF @hk_8 @hk_19 (pmA_s hA rfl) o_x1 T r_x0 r_x1 i_x4 i_x5 i_f_23 i_v_4 (rg_m (rg_b rfl : Rg (1) (1) ((1 : Int32))) (by decide)) hc_8 hc_19 w19
      · have _ := c_25
        exact zX15_writeMen_56 hF @hk_8 @hk_19 (pmA_s hA rfl) o_x1 T r_x0 r_x1 i_x4 i_x5 i_f_23 i_v_4 (rg_m (rg_b rfl : Rg (0) (0) ((0 : Int32))) (by decide)) hc_8 hc_19 w19
set_option maxRecDepth 20000 in
theorem zX15_writeMen_8 {ρ : Nat → Nat} {c : Cm} {F : Nat} {w_x1 : Nat} {u0 : Int} (hF : 700000 ≤ F) (hA : pmA c [(83, 999), (16, 3)]) : ∀ (f : Nat) {h : Hp} {x0 : Nat} {x1 : Nat} {x2 : Int64} {x4 : Int32}, cw c x1 = w_x1 → TH ρ c h → ρ x0 = 16 → ρ x1 = 13 → Rg (-1) (7) (x4) → (u0 ≤ (hI h x0 3).toInt ∧ u0 ≤ 180 ∧ (hI h x0 3).toInt ≤ u0 + 9 * (7 - x4.toInt)) → (x4.toInt - (-1)).toNat < f → Sat (sX15_writeMen_8 F f h x0 x1 x2 x4) (ZQ (ZV ρ c) (fun o => (u0 ≤ (hI o x0 3).toInt) ∧ ((hI o x0 3).toInt ≤ u0 + 72))) := by
  intro f
  induction f with
  | zero => intros; omega
  | succ f ih =>
    intro h x0 x1 x2 x4 o_x1 T r_x0 r_x1 i_x4 w8 hm
    rw [sX15_writeMen_8]
    obtain ⟨C_8, hC_8⟩ : ∃ C : Int, C = x4.toInt := ⟨_, rfl⟩
    have hk_8 : ∀ {h : Hp} {x0 : Nat} {x1 : Nat} {x2 : Int64} {x4 : Int32}, cw c x1 = w_x1 → TH ρ c h → ρ x0 = 16 → ρ x1 = 13 → Rg (-1) (7) (x4) → (u0 ≤ (hI h x0 3).toInt ∧ u0 ≤ 180 ∧ (hI h x0 3).toInt ≤ u0 + 9 * (7 - x4.toInt)) → x4.toInt < C_8 → Sat (sX15_writeMen_8 F f h x0 x1 x2 x4) (ZQ (ZV ρ c) (fun o => (u0 ≤ (hI o x0 3).toInt) ∧ ((hI o x0 3).toInt ≤ u0 + 72))) := by
      intro h' x0' x1' x2' x4' o_x1' T' r_x0' r_x1' i_x4' w8' hl
      exact ih o_x1' T' r_x0' r_x1' i_x4' w8' (by have := i_x4'.1; have := i_x4'.2; omega)
    have hc_8 : x4.toInt ≤ C_8 := by omega
    refine s_br (fun c_1 => ?_) (fun c_1 => ?_)
    · have _ := c_1
      have i_f_2 : Rg (-1) (-1) (x4) := rg_lt1 c_1 i_x4 (rg_b rfl : Rg (0) (0) (0 : Int32))
      exact s_some ⟨(T), ⟨(show u0 ≤ (hI h x0 3).toInt from (by have hq_ := ((thI T r_x0 (k := 16) (i := 3) rfl : Rg (0) (256) ((hI h x0 3))) : Rg (0) (256) ((hI h x0 3))); have := hq_.1; have := hq_.2; have := (i_f_2 : Rg (-1) (-1) (x4)).1; have := (i_f_2 : Rg (-1) (-1) (x4)).2; have := lt_i c_1; have : (0 : Int32).toInt = 0 := rfl; clear o_x1; omega)), (show (hI h x0 3).toInt ≤ u0 + 72 from (by have hq_ := ((thI T r_x0 (k := 16) (i := 3) rfl : Rg (0) (256) ((hI h x0 3))) : Rg (0) (256) ((hI h x0 3))); have := hq_.1; have := hq_.2; have := (i_f_2 : Rg (-1) (-1) (x4)).1; have := (i_f_2 : Rg (-1) (-1) (x4)).2; have := lt_i c_1; have : (0 : Int32).toInt = 0 := rfl; clear o_x1; omega))⟩⟩
    · have _ := c_1
      have i_f_3 : Rg (0) (7) (x4) := rg_le2 (nlt_le c_1) (rg_b rfl : Rg (0) (0) (0 : Int32)) i_x4
      have m_4 : Rg (0) (8) ((0 : Int32)) := (rg_m (rg_b rfl : Rg (0) (0) ((0 : Int32))) (by decide))
      exact zX15_writeMen_19 hF @hk_8 (pmA_s hA rfl) F o_x1 T r_x0 r_x1 i_f_3 (rg_m (rg_b rfl : Rg (0) (0) ((0 : Int32))) (by decide)) (rg_m (rg_b rfl : Rg (0) (0) ((0 : Int32))) (by decide)) hc_8 (show u0 ≤ (hI h x0 3).toInt ∧ u0 ≤ 180 ∧ 0 ≤ ((0 : Int32)).toInt ∧ ((0 : Int32)).toInt ≤ ((0 : Int32)).toInt ∧ (hI h x0 3).toInt + ((0 : Int32)).toInt ≤ u0 + 9 * (7 - (x4).toInt) + ((0 : Int32)).toInt from (by have := (i_f_3 : Rg (0) (7) (x4)).1; have := (i_f_3 : Rg (0) (7) (x4)).2; have : ((0 : Int32)).toInt = 0 := rfl; have hq_ := ((thI T r_x0 (k := 16) (i := 3) rfl : Rg (0) (256) ((hI h x0 3))) : Rg (0) (256) ((hI h x0 3))); have := hq_.1; have := hq_.2; have := nlt_i c_1; have : (0 : Int32).toInt = 0 := rfl; clear o_x1; refine ⟨?_, ?_, ?_, ?_, ?_⟩ <;> omega)) (by have := m_4.1; have := m_4.2; omega)
set_option maxRecDepth 20000 in
theorem zX15_writeMen {ρ : Nat → Nat} {c : Cm} {F : Nat} {w_x1 : Nat} (hF : 700000 ≤ F) (hA : pmA c [(83, 999), (16, 3)]) {h : Hp} {x0 : Nat} {x1 : Nat} {x2 : Int64} (o_x1 : cw c x1 = w_x1) (T : TH ρ c h) (r_x0 : ρ x0 = 16) (r_x1 : ρ x1 = 13) (po : ((hI h x0 3).toInt ≤ 180)) : Sat (sX15_writeMen F h x0 x1 x2) (ZQ (ZV ρ c) (fun o => (((hI h x0 3).toInt) ≤ (hI o x0 3).toInt) ∧ ((hI o x0 3).toInt ≤ ((hI h x0 3).toInt) + 72))) := by
  unfold sX15_writeMen 
  refine s_q (fun v_1 e_1 => ?_)
  have i_v_1 : Rg (2) (7) (v_1) := by rw [e_1]; exact (rg_sub (thI T r_x0 (k := 16) (i := 12) rfl : Rg (3) (8) ((hI h x0 12))) (rg_b rfl : Rg (1) (1) ((1 : Int32))) (by decide) : Rg (2) (7) ((hI h x0 12) - (1 : Int32)))
  have m_2 : Rg (-1) (7) (v_1) := (rg_m i_v_1 (by decide))
  exact zX15_writeMen_8 hF (pmA_s hA rfl) F o_x1 T r_x0 r_x1 (rg_m i_v_1 (by decide)) (show ((hI h x0 3).toInt) ≤ (hI h x0 3).toInt ∧ ((hI h x0 3).toInt) ≤ 180 ∧ (hI h x0 3).toInt ≤ ((hI h x0 3).toInt) + 9 * (7 - (v_1).toInt) from (by have := (i_v_1 : Rg (2) (7) (v_1)).1; have := (i_v_1 : Rg (2) (7) (v_1)).2; have : (v_1).toInt = ((hI h x0 12) - (1 : Int32) : Int32).toInt := congrArg Int32.toInt e_1; have : ((hI h x0 12) - (1 : Int32) : Int32).toInt = ((hI h x0 12) : Int32).toInt - ((1 : Int32) : Int32).toInt := ti_sub ((thI T r_x0 (k := 16) (i := 12) rfl : Rg (3) (8) ((hI h x0 12))) : Rg (3) (8) ((hI h x0 12))) ((rg_b rfl : Rg (1) (1) ((1 : Int32))) : Rg (1) (1) ((1 : Int32))) (by decide); have hq_ := ((thI T r_x0 (k := 16) (i := 12) rfl : Rg (3) (8) ((hI h x0 12))) : Rg (3) (8) ((hI h x0 12))); have := hq_.1; have := hq_.2; have : ((1 : Int32)).toInt = 1 := rfl; have hq_ := ((thI T r_x0 (k := 16) (i := 3) rfl : Rg (0) (256) ((hI h x0 3))) : Rg (0) (256) ((hI h x0 3))); have := hq_.1; have := hq_.2; clear o_x1; refine ⟨?_, ?_, ?_⟩ <;> omega)) (by have := m_2.1; have := m_2.2; omega)
set_option maxRecDepth 20000 in
theorem zX15_isPassBy_86 {ρ : Nat → Nat} {c : Cm} {h0 : Hp} {F : Nat} (hF : 700000 ≤ F) : ∀ (f : Nat) {h : Hp} {x0 : Nat} {x1 : Nat} {x5 : Int32} {x6 : Int32} {x7 : Int32}, h = h0 → TH ρ c h → ρ x0 = 16 → ρ x1 = 13 → Rg (0) (7) (x5) → Rg (0) (63) (x6) → Rg (1) (7) (x7) → (7 - x7.toInt).toNat < f → Sat (sX15_isPassBy_86 F f h x0 x1 x5 x6 x7) (ZI0 h0 (0) (1)) := by
  intro f
  induction f with
  | zero => intros; omega
  | succ f ih =>
    intro h x0 x1 x5 x6 x7 E T r_x0 r_x1 i_x5 i_x6 i_x7 hm
    rw [sX15_isPassBy_86]
    obtain ⟨C_86, hC_86⟩ : ∃ C : Int, C = x7.toInt := ⟨_, rfl⟩
    have hk_86 : ∀ {h : Hp} {x0 : Nat} {x1 : Nat} {x5 : Int32} {x6 : Int32} {x7 : Int32}, h = h0 → TH ρ c h → ρ x0 = 16 → ρ x1 = 13 → Rg (0) (7) (x5) → Rg (0) (63) (x6) → Rg (1) (7) (x7) → C_86 < x7.toInt → Sat (sX15_isPassBy_86 F f h x0 x1 x5 x6 x7) (ZI0 h0 (0) (1)) := by
      intro h' x0' x1' x5' x6' x7' E' T' r_x0' r_x1' i_x5' i_x6' i_x7' hl
      exact ih E' T' r_x0' r_x1' i_x5' i_x6' i_x7' (by have := i_x7'.1; have := i_x7'.2; omega)
    have hc_86 : C_86 ≤ x7.toInt := by omega
    refine s_br (fun c_1 => ?_) (fun c_1 => ?_)
    · have _ := c_1
      exact s_some ⟨E, (rg_m (rg_b rfl : Rg (1) (1) ((1 : Int32))) (by decide))⟩
    · have _ := c_1
      have i_f_2 : Rg (1) (6) (x7) := rg_lt1 (nle_lt c_1) i_x7 i_x5
      have i_f_3 : Rg (2) (7) (x5) := rg_lt2 (nle_lt c_1) i_x7 i_x5
      refine s_dI0 (zX15_onward hF T r_x0 i_x6 (rg_m i_f_2 (by decide))) (fun o_2 eb_o_2 e_o_2 i_o_2 => ?_)
      have T_4 := th_eq e_o_2 T
      obtain ⟨r_3, e_r_3, q_r_3⟩ := thR T_4 r_x1 (k := 13) (i := 4) (k2 := 63) rfl (by decide)
      refine s_ref e_r_3 ?_
      refine s_gd (by rw [thN T_4 q_r_3 (k := 63) (n := 64) rfl (by decide)]; exact rg_inB ((rg_m i_f_2 (by decide)) : Rg (0) (63) (x7)) (by decide)) ?_
      refine s_br (fun c_5 => ?_) (fun c_5 => ?_)
      · have _ := c_5
        have i_f_6 : Rg (0) (63) (o_2.1) := rg_eq c_5 (thI T_4 q_r_3 (k := 63) rfl : Rg (0) (63) ((hI o_2.2 r_3 x7.toNatClampNeg)))
        refine s_q (fun v_6 e_7 => ?_)
        have i_v_6 : Rg (2) (7) (v_6) := by rw [e_7]; exact (rg_add i_f_2 (rg_b rfl : Rg (1) (1) ((1 : Int32))) (by decide) : Rg (2) (7) (x7 + (1 : Int32)))
        have m_8 : (v_6).toInt = x7.toInt + 1 := by rw [e_7]; exact rg_inc i_f_2 (by decide)
        exact hk_86 (e_o_2.trans E) T_4 r_x0 r_x1 (rg_m i_f_3 (by decide)) i_x6 (rg_m i_v_6 (by decide)) (by have := hc_86; omega)
      · have _ := c_5
        exact s_some ⟨(e_o_2.trans E), (rg_m (rg_b rfl : Rg (0) (0) ((0 : Int32))) (by decide))⟩
set_option maxRecDepth 20000 in
theorem zX15_isPassBy {ρ : Nat → Nat} {c : Cm} {F : Nat} (hF : 700000 ≤ F) {h : Hp} {x0 : Nat} {x1 : Nat} {x2 : Int32} {x3 : Int32} {x4 : Int32} (T : TH ρ c h) (r_x0 : ρ x0 = 16) (r_x1 : ρ x1 = 13) (i_x2 : Rg (0) (63) (x2)) (i_x3 : Rg (0) (95) (x3)) (i_x4 : Rg (0) (1) (x4)) : Sat (sX15_isPassBy F h x0 x1 x2 x3 x4) (ZI0 h (0) (1)) := by
  unfold sX15_isPassBy sX15_isPassBy_81 sX15_isPassBy_83
  refine s_q (fun v_1 e_1 => ?_)
  have i_v_1 : Rg (0) (64) (v_1) := by rw [e_1]; exact (thI T r_x1 (k := 13) (i := 3) rfl : Rg (0) (64) (hI h x1 3))
  obtain ⟨r_2, e_r_2, q_r_2⟩ := thR T r_x0 (k := 16) (i := 4) (k2 := 15) rfl (by decide)
  refine s_ref e_r_2 ?_
  obtain ⟨r_3, e_r_3, q_r_3⟩ := thR T q_r_2 (k := 15) (i := 8) (k2 := 78) rfl (by decide)
  refine s_ref e_r_3 ?_
  refine s_gd (by rw [thN T q_r_3 (k := 78) (n := 96) rfl (by decide)]; exact rg_inB (i_x3 : Rg (0) (95) (x3)) (by decide)) ?_
  refine s_br (fun c_2 => ?_) (fun c_2 => ?_)
  · have _ := c_2
    have i_f_3 : Rg (0) (7) (v_1) := rg_le1 c_2 i_v_1 (thI T q_r_3 (k := 78) rfl : Rg (0) (7) ((hI h r_3 x3.toNatClampNeg)))
    refine s_dI0 (zX15_onward hF T r_x0 i_x2 (rg_m (rg_sub (rg_b rfl : Rg (0) (0) ((0 : Int32))) i_f_3 (by decide) : Rg (-7) (0) (((0 : Int32) - v_1))) (by decide))) (fun o_6 eb_o_6 e_o_6 i_o_6 => ?_)
    have T_4 := th_eq e_o_6 T
    refine s_br (fun c_5 => ?_) (fun c_5 => ?_)
    · have _ := c_5
      have i_f_6 : Rg (-1) (-1) (o_6.1) := rg_eq c_5 (rg_b rfl : Rg (-1) (-1) ((- 1 : Int32)))
      exact s_some ⟨(e_o_6.trans rfl), (rg_m (rg_b rfl : Rg (0) (0) ((0 : Int32))) (by decide))⟩
    · have _ := c_5
      have i_f_7 : Rg (0) (63) (o_6.1) := rg_nlo c_5 i_o_6 (rg_b rfl : Rg (-1) (-1) ((- 1 : Int32)))
      obtain ⟨r_8, e_r_8, q_r_8⟩ := thR T_4 r_x1 (k := 13) (i := 0) (k2 := 62) rfl (by decide)
      refine s_ref e_r_8 ?_
      refine s_gd (by rw [thN T_4 q_r_8 (k := 62) (n := 64) rfl (by decide)]; exact rg_inB (i_f_7 : Rg (0) (63) (o_6.1)) (by decide)) ?_
      refine s_br (fun c_8 => ?_) (fun c_8 => ?_)
      · have _ := c_8
        have i_f_9 : Rg (1) (24) ((hI o_6.2 r_8 o_6.1.toNatClampNeg)) := rg_lt2 c_8 (rg_b rfl : Rg (0) (0) (0 : Int32)) (thI T_4 q_r_8 (k := 62) rfl : Rg (0) (24) ((hI o_6.2 r_8 o_6.1.toNatClampNeg)))
        exact s_some ⟨(e_o_6.trans rfl), (rg_m (rg_b rfl : Rg (0) (0) ((0 : Int32))) (by decide))⟩
      · have _ := c_8
        have i_f_10 : Rg (0) (0) ((hI o_6.2 r_8 o_6.1.toNatClampNeg)) := rg_le1 (nlt_le c_8) (thI T_4 q_r_8 (k := 62) rfl : Rg (0) (24) ((hI o_6.2 r_8 o_6.1.toNatClampNeg))) (rg_b rfl : Rg (0) (0) (0 : Int32))
        refine s_ref (hr_e e_o_6 e_r_2) ?_
        obtain ⟨r_12, e_r_12, q_r_12⟩ := thR T_4 q_r_2 (k := 15) (i := 9) (k2 := 79) rfl (by decide)
        refine s_ref e_r_12 ?_
        refine s_gd (by rw [thN T_4 q_r_12 (k := 79) (n := 96) rfl (by decide)]; exact rg_inB (i_x3 : Rg (0) (95) (x3)) (by decide)) ?_
        refine s_br (fun c_11 => ?_) (fun c_11 => ?_)
        · have _ := c_11
          have i_f_12 : Rg (0) (0) ((hI o_6.2 r_12 x3.toNatClampNeg)) := rg_le1 c_11 (thI T_4 q_r_12 (k := 79) rfl : Rg (0) (8) ((hI o_6.2 r_12 x3.toNatClampNeg))) (rg_b rfl : Rg (0) (0) (0 : Int32))
          have m_13 : Rg (1) (7) ((1 : Int32)) := (rg_m (rg_b rfl : Rg (1) (1) ((1 : Int32))) (by decide))
          exact zX15_isPassBy_86 hF F (e_o_6.trans rfl) T_4 r_x0 r_x1 i_f_3 i_f_7 (rg_m (rg_b rfl : Rg (1) (1) ((1 : Int32))) (by decide)) (by have := m_13.1; have := m_13.2; omega)
        · have _ := c_11
          have i_f_14 : Rg (1) (8) ((hI o_6.2 r_12 x3.toNatClampNeg)) := rg_lt2 (nle_lt c_11) (rg_b rfl : Rg (0) (0) (0 : Int32)) (thI T_4 q_r_12 (k := 79) rfl : Rg (0) (8) ((hI o_6.2 r_12 x3.toNatClampNeg)))
          refine s_dI0 (zX15_rankFor hF T_4 r_x0 i_f_7 i_x4) (fun o_15 eb_o_15 e_o_15 i_o_15 => ?_)
          have T_15 := th_eq e_o_15 T_4
          refine s_ref (hr_e e_o_15 (hr_e e_o_6 e_r_2)) ?_
          refine s_ref (hr_e e_o_15 e_r_12) ?_
          refine s_gd (by rw [thN T_15 q_r_12 (k := 79) (n := 96) rfl (by decide)]; exact rg_inB (i_x3 : Rg (0) (95) (x3)) (by decide)) ?_
          refine s_br (fun c_16 => ?_) (fun c_16 => ?_)
          · have _ := c_16
            have i_f_17 : Rg (1) (8) (o_15.1) := rg_eq c_16 ((rg_he e_o_15 i_f_14) : Rg (1) (8) ((hI o_15.2 r_12 x3.toNatClampNeg)))
            have m_18 : Rg (1) (7) ((1 : Int32)) := (rg_m (rg_b rfl : Rg (1) (1) ((1 : Int32))) (by decide))
            exact zX15_isPassBy_86 hF F (e_o_15.trans (e_o_6.trans rfl)) T_15 r_x0 r_x1 i_f_3 i_f_7 (rg_m (rg_b rfl : Rg (1) (1) ((1 : Int32))) (by decide)) (by have := m_18.1; have := m_18.2; omega)
          · have _ := c_16
            exact s_some ⟨(e_o_15.trans (e_o_6.trans rfl)), (rg_m (rg_b rfl : Rg (0) (0) ((0 : Int32))) (by decide))⟩
  · have _ := c_2
    have i_f_19 : Rg (1) (64) (v_1) := rg_lt2 (nle_lt c_2) (thI T q_r_3 (k := 78) rfl : Rg (0) (7) ((hI h r_3 x3.toNatClampNeg))) i_v_1
    exact s_some ⟨rfl, (rg_m (rg_b rfl : Rg (0) (0) ((0 : Int32))) (by decide))⟩
set_option maxRecDepth 20000 in
theorem zX15_isPass_107 {ρ : Nat → Nat} {c : Cm} {F : Nat} {w_x1 : Nat} (hF : 700000 ≤ F) {k_75 : Hp → Nat → Nat → Int32 → Int32 → Int32 → Int32 → Option (Int32 × Hp)} {C_75 : Int} (hk_75 : ∀ {h : Hp} {x0 : Nat} {x1 : Nat} {x2 : Int32} {x3 : Int32} {x4 : Int32} {x5 : Int32}, cw c x1 = w_x1 → TH ρ c h → ρ x0 = 16 → ρ x1 = 13 → Rg (0) (63) (x2) → Rg (1) (24) (x3) → Rg (0) (1) (x4) → Rg (0) (8) (x5) → (PE x1 h) → C_75 < x5.toInt → Sat (k_75 h x0 x1 x2 x3 x4 x5) (ZQ (ZI ρ c (0) (1)) (fun o => (¬ o.1.toInt = 0) → PE x1 o.2))) (hA : pmA c [(16, 23), (16, 24)]) : ∀ (f : Nat) {h : Hp} {x0 : Nat} {x1 : Nat} {x2 : Int32} {x3 : Int32} {x4 : Int32} {x5 : Int32} {x6 : Int32} {x7 : Int32}, cw c x1 = w_x1 → TH ρ c h → ρ x0 = 16 → ρ x1 = 13 → Rg (0) (63) (x2) → Rg (1) (24) (x3) → Rg (0) (1) (x4) → Rg (0) (7) (x5) → Rg (0) (95) (x6) → Rg (0) (8) (x7) → C_75 ≤ x5.toInt → (PE x1 h) → (8 - x7.toInt).toNat < f → Sat (sX15_isPass_107 F k_75 f h x0 x1 x2 x3 x4 x5 x6 x7) (ZQ (ZI ρ c (0) (1)) (fun o => (¬ o.1.toInt = 0) → PE x1 o.2)) := by
  intro f
  induction f with
  | zero => intros; omega
  | succ f ih =>
    intro h x0 x1 x2 x3 x4 x5 x6 x7 o_x1 T r_x0 r_x1 i_x2 i_x3 i_x4 i_x5 i_x6 i_x7 hc_75 pe hm
    rw [sX15_isPass_107]
    unfold sX15_isPass_164 sX15_isPass_158
    obtain ⟨C_107, hC_107⟩ : ∃ C : Int, C = x7.toInt := ⟨_, rfl⟩
    have hk_107 : ∀ {h : Hp} {x0 : Nat} {x1 : Nat} {x2 : Int32} {x3 : Int32} {x4 : Int32} {x5 : Int32} {x6 : Int32} {x7 : Int32}, cw c x1 = w_x1 → TH ρ c h → ρ x0 = 16 → ρ x1 = 13 → Rg (0) (63) (x2) → Rg (1) (24) (x3) → Rg (0) (1) (x4) → Rg (0) (7) (x5) → Rg (0) (95) (x6) → Rg (0) (8) (x7) → C_75 ≤ x5.toInt → (PE x1 h) → C_107 < x7.toInt → Sat (sX15_isPass_107 F k_75 f h x0 x1 x2 x3 x4 x5 x6 x7) (ZQ (ZI ρ c (0) (1)) (fun o => (¬ o.1.toInt = 0) → PE x1 o.2)) := by
      intro h' x0' x1' x2' x3' x4' x5' x6' x7' o_x1' T' r_x0' r_x1' i_x2' i_x3' i_x4' i_x5' i_x6' i_x7' hc_75' pe' hl
      exact ih o_x1' T' r_x0' r_x1' i_x2' i_x3' i_x4' i_x5' i_x6' i_x7' hc_75' pe' (by have := i_x7'.1; have := i_x7'.2; omega)
    have hc_107 : C_107 ≤ x7.toInt := by omega
    refine s_br (fun c_1 => ?_) (fun c_1 => ?_)
    · have _ := c_1
      have i_f_2 : Rg (8) (8) (x7) := rg_le2 c_1 (rg_b rfl : Rg (8) (8) ((8 : Int32))) i_x7
      refine s_q (fun v_1q1 e_3 => ?_)
      have i_v_1q1 : Rg (1) (8) (v_1q1) := by rw [e_3]; exact (rg_add i_x5 (rg_b rfl : Rg (1) (1) ((1 : Int32))) (by decide) : Rg (1) (8) (x5 + (1 : Int32)))
      have m_4 : (v_1q1).toInt = x5.toInt + 1 := by rw [e_3]; exact rg_inc i_x5 (by decide)
      exact hk_75 o_x1 T r_x0 r_x1 i_x2 i_x3 i_x4 (rg_m i_v_1q1 (by decide)) pe (by have := hc_75; omega)
    · have _ := c_1
      have i_f_5 : Rg (0) (7) (x7) := rg_lt1 (nle_lt c_1) i_x7 (rg_b rfl : Rg (8) (8) ((8 : Int32)))
      obtain ⟨r_2, e_r_2, q_r_2⟩ := thR T r_x0 (k := 16) (i := 4) (k2 := 15) rfl (by decide)
      refine s_ref e_r_2 ?_
      obtain ⟨r_3, e_r_3, q_r_3⟩ := thR T q_r_2 (k := 15) (i := 5) (k2 := 75) rfl (by decide)
      refine s_ref e_r_3 ?_
      refine s_gd (by rw [thN T q_r_3 (k := 75) (n := 96) rfl (by decide)]; exact rg_inB (i_x6 : Rg (0) (95) (x6)) (by decide)) ?_
      refine s_br (fun c_6 => ?_) (fun c_6 => ?_)
      · have _ := c_6
        have i_f_7 : Rg (0) (0) (((hI h r_3 x6.toNatClampNeg) &&& (16 : Int32))) := rg_eq c_6 (rg_b rfl : Rg (0) (0) (0 : Int32))
        refine s_q (fun v_1q2 e_8 => ?_)
        have i_v_1q2 : Rg (1) (8) (v_1q2) := by rw [e_8]; exact (rg_add i_x5 (rg_b rfl : Rg (1) (1) ((1 : Int32))) (by decide) : Rg (1) (8) (x5 + (1 : Int32)))
        have m_9 : (v_1q2).toInt = x5.toInt + 1 := by rw [e_8]; exact rg_inc i_x5 (by decide)
        exact hk_75 o_x1 T r_x0 r_x1 i_x2 i_x3 i_x4 (rg_m i_v_1q2 (by decide)) pe (by have := hc_75; omega)
      · have _ := c_6
        have i_f_10 : Rg (1) (16) (((hI h r_3 x6.toNatClampNeg) &&& (16 : Int32))) := rg_nlo c_6 (rg_and (rg_b rfl : Rg (16) (16) ((16 : Int32))) (by decide) : Rg (0) (16) (((hI h r_3 x6.toNatClampNeg) &&& (16 : Int32)))) (rg_b rfl : Rg (0) (0) (0 : Int32))
        refine s_cIf (S := fS [(16, 23), (16, 24)] []) T (fs_sub (pmA_s hA rfl) fs_n) (zX15_hasVector hF fs_a (th_in _ T) r_x0 i_x6 i_f_5 i_x4) (fun o_6 T_11 i_o_6 f_o_6 => ?_)
        refine s_br (fun c_12 => ?_) (fun c_12 => ?_)
        · have _ := c_12
          have i_f_13 : Rg (0) (0) (o_6.1) := rg_eq c_12 (rg_b rfl : Rg (0) (0) (0 : Int32))
          refine s_q (fun v_1q3 e_14 => ?_)
          have i_v_1q3 : Rg (1) (8) (v_1q3) := by rw [e_14]; exact (rg_add i_f_5 (rg_b rfl : Rg (1) (1) ((1 : Int32))) (by decide) : Rg (1) (8) (x7 + (1 : Int32)))
          have pf_15 : PE x1 o_6.2 := (pe_fr T r_x1 f_o_6 rfl rfl rfl (fun _ => rfl) (fun _ => rfl) pe)
          have m_16 : (v_1q3).toInt = x7.toInt + 1 := by rw [e_14]; exact rg_inc i_f_5 (by decide)
          exact hk_107 o_x1 T_11 r_x0 r_x1 i_x2 i_x3 i_x4 i_x5 i_x6 (rg_m i_v_1q3 (by decide)) hc_75 pf_15 (by have := hc_107; omega)
        · have _ := c_12
          have i_f_17 : Rg (1) (1) (o_6.1) := rg_nlo c_12 i_o_6 (rg_b rfl : Rg (0) (0) (0 : Int32))
          refine s_dI0 (zX15_isPassBy hF T_11 r_x0 r_x1 i_x2 i_x6 i_x4) (fun o_8 eb_o_8 e_o_8 i_o_8 => ?_)
          have T_18 := th_eq e_o_8 T_11
          refine s_br (fun c_19 => ?_) (fun c_19 => ?_)
          · have _ := c_19
            have i_f_20 : Rg (0) (0) (o_8.1) := rg_eq c_19 (rg_b rfl : Rg (0) (0) (0 : Int32))
            refine s_q (fun v_1q4 e_21 => ?_)
            have i_v_1q4 : Rg (1) (8) (v_1q4) := by rw [e_21]; exact (rg_add i_f_5 (rg_b rfl : Rg (1) (1) ((1 : Int32))) (by decide) : Rg (1) (8) (x7 + (1 : Int32)))
            have pf_22 : PE x1 o_8.2 := (by rw [e_o_8]; exact (pe_fr T r_x1 f_o_6 rfl rfl rfl (fun _ => rfl) (fun _ => rfl) pe))
            have m_23 : (v_1q4).toInt = x7.toInt + 1 := by rw [e_21]; exact rg_inc i_f_5 (by decide)
            exact hk_107 o_x1 T_18 r_x0 r_x1 i_x2 i_x3 i_x4 i_x5 i_x6 (rg_m i_v_1q4 (by decide)) hc_75 pf_22 (by have := hc_107; omega)
          · have _ := c_19
            have i_f_24 : Rg (1) (1) (o_8.1) := rg_nlo c_19 i_o_8 (rg_b rfl : Rg (0) (0) (0 : Int32))
            have pf_25 : PE x1 o_8.2 := (by rw [e_o_8]; exact (pe_fr T r_x1 f_o_6 rfl rfl rfl (fun _ => rfl) (fun _ => rfl) pe))
            exact s_some ⟨⟨(T_18), (rg_m (rg_b rfl : Rg (1) (1) ((1 : Int32))) (by decide))⟩, (fun _ => pf_25)⟩
set_option maxRecDepth 20000 in
theorem zX15_isPass_75 {ρ : Nat → Nat} {c : Cm} {F : Nat} {w_x1 : Nat} (hF : 700000 ≤ F) (hA : pmA c [(16, 23), (16, 24)]) : ∀ (f : Nat) {h : Hp} {x0 : Nat} {x1 : Nat} {x2 : Int32} {x3 : Int32} {x4 : Int32} {x5 : Int32}, cw c x1 = w_x1 → TH ρ c h → ρ x0 = 16 → ρ x1 = 13 → Rg (0) (63) (x2) → Rg (1) (24) (x3) → Rg (0) (1) (x4) → Rg (0) (8) (x5) → (PE x1 h) → (8 - x5.toInt).toNat < f → Sat (sX15_isPass_75 F f h x0 x1 x2 x3 x4 x5) (ZQ (ZI ρ c (0) (1)) (fun o => (¬ o.1.toInt = 0) → PE x1 o.2)) := by
  intro f
  induction f with
  | zero => intros; omega
  | succ f ih =>
    intro h x0 x1 x2 x3 x4 x5 o_x1 T r_x0 r_x1 i_x2 i_x3 i_x4 i_x5 pe hm
    rw [sX15_isPass_75]
    unfold sX15_manOf
    obtain ⟨C_75, hC_75⟩ : ∃ C : Int, C = x5.toInt := ⟨_, rfl⟩
    have hk_75 : ∀ {h : Hp} {x0 : Nat} {x1 : Nat} {x2 : Int32} {x3 : Int32} {x4 : Int32} {x5 : Int32}, cw c x1 = w_x1 → TH ρ c h → ρ x0 = 16 → ρ x1 = 13 → Rg (0) (63) (x2) → Rg (1) (24) (x3) → Rg (0) (1) (x4) → Rg (0) (8) (x5) → (PE x1 h) → C_75 < x5.toInt → Sat (sX15_isPass_75 F f h x0 x1 x2 x3 x4 x5) (ZQ (ZI ρ c (0) (1)) (fun o => (¬ o.1.toInt = 0) → PE x1 o.2)) := by
      intro h' x0' x1' x2' x3' x4' x5' o_x1' T' r_x0' r_x1' i_x2' i_x3' i_x4' i_x5' pe' hl
      exact ih o_x1' T' r_x0' r_x1' i_x2' i_x3' i_x4' i_x5' pe' (by have := i_x5'.1; have := i_x5'.2; omega)
    have hc_75 : C_75 ≤ x5.toInt := by omega
    obtain ⟨r_1, e_r_1, q_r_1⟩ := thR T r_x0 (k := 16) (i := 4) (k2 := 15) rfl (by decide)
    refine s_ref e_r_1 ?_
    obtain ⟨r_2, e_r_2, q_r_2⟩ := thR T q_r_1 (k := 15) (i := 4) (k2 := 74) rfl (by decide)
    refine s_ref e_r_2 ?_
    refine s_pu (fun o_3z e_1 => ?_)
    try dsimp only
    have i_o_3z : Rg (0) (11) (o_3z) := by rw [e_1]; exact (rg_shrk 1 (by decide) (rg_sub i_x3 (rg_b rfl : Rg (1) (1) ((1 : Int32))) (by decide) : Rg (0) (23) ((x3 - (1 : Int32)))) (by decide) : Rg (0) (11) ((x3 - (1 : Int32)) >>> ((1 : Int32) &&& 31)))
    refine s_gd (by rw [thN T q_r_2 (k := 74) (n := 12) rfl (by decide)]; exact rg_inB (i_o_3z : Rg (0) (11) (o_3z)) (by decide)) ?_
    refine s_br (fun c_2 => ?_) (fun c_2 => ?_)
    · have _ := c_2
      exact s_some ⟨⟨(T), (rg_m (rg_b rfl : Rg (0) (0) ((0 : Int32))) (by decide))⟩, (fun q => absurd q (show ¬ (¬ ((0 : Int32)).toInt = 0) from (by have : ((0 : Int32)).toInt = 0 := rfl; clear o_x1; omega)))⟩
    · have _ := c_2
      have i_f_3 : Rg (0) (7) (x5) := rg_lt1 (nle_lt c_2) i_x5 (thI T q_r_2 (k := 74) rfl : Rg (0) (8) ((hI h r_2 o_3z.toNatClampNeg)))
      have i_f_4 : Rg (1) (8) ((hI h r_2 o_3z.toNatClampNeg)) := rg_lt2 (nle_lt c_2) i_x5 (thI T q_r_2 (k := 74) rfl : Rg (0) (8) ((hI h r_2 o_3z.toNatClampNeg)))
      refine s_pu (fun o_6z e_5 => ?_)
      try dsimp only
      have i_o_6z : Rg (0) (11) (o_6z) := by rw [e_5]; exact (rg_shrk 1 (by decide) (rg_sub i_x3 (rg_b rfl : Rg (1) (1) ((1 : Int32))) (by decide) : Rg (0) (23) ((x3 - (1 : Int32)))) (by decide) : Rg (0) (11) ((x3 - (1 : Int32)) >>> ((1 : Int32) &&& 31)))
      refine s_q (fun v_7 e_6 => ?_)
      have i_v_7 : Rg (0) (95) (v_7) := by rw [e_6]; exact (rg_add (rg_mulc' (rg_b rfl : Rg (8) (8) ((8 : Int32))) i_o_6z (by decide) : Rg (0) (88) (((8 : Int32) * o_6z))) i_f_3 (by decide) : Rg (0) (95) (((8 : Int32) * o_6z) + x5))
      have m_7 : Rg (0) (8) ((0 : Int32)) := (rg_m (rg_b rfl : Rg (0) (0) ((0 : Int32))) (by decide))
      exact zX15_isPass_107 hF @hk_75 (pmA_s hA rfl) F o_x1 T r_x0 r_x1 i_x2 i_x3 i_x4 i_f_3 i_v_7 (rg_m (rg_b rfl : Rg (0) (0) ((0 : Int32))) (by decide)) hc_75 pe (by have := m_7.1; have := m_7.2; omega)
set_option maxRecDepth 20000 in
theorem zX15_isPass_34 {ρ : Nat → Nat} {c : Cm} {F : Nat} {w_x1 : Nat} (hF : 700000 ≤ F) (hA : pmA c [(16, 23), (16, 24)]) : ∀ (f : Nat) {h : Hp} {x0 : Nat} {x1 : Nat} {x2 : Int32} {x3 : Int32} {x4 : Int32}, cw c x1 = w_x1 → TH ρ c h → ρ x0 = 16 → ρ x1 = 13 → Rg (0) (63) (x2) → Rg (1) (24) (x3) → Rg (1) (64) (x4) → (PpE x1 x4 h) → (64 - x4.toInt).toNat < f → Sat (sX15_isPass_34 F f h x0 x1 x2 x3 x4) (ZQ (ZI ρ c (0) (1)) (fun o => (¬ o.1.toInt = 0) → PE x1 o.2)) := by
  intro f
  induction f with
  | zero => intros; omega
  | succ f ih =>
    intro h x0 x1 x2 x3 x4 o_x1 T r_x0 r_x1 i_x2 i_x3 i_x4 pp hm
    rw [sX15_isPass_34]
    unfold sX15_sideOf
    obtain ⟨C_34, hC_34⟩ : ∃ C : Int, C = x4.toInt := ⟨_, rfl⟩
    have hk_34 : ∀ {h : Hp} {x0 : Nat} {x1 : Nat} {x2 : Int32} {x3 : Int32} {x4 : Int32}, cw c x1 = w_x1 → TH ρ c h → ρ x0 = 16 → ρ x1 = 13 → Rg (0) (63) (x2) → Rg (1) (24) (x3) → Rg (1) (64) (x4) → (PpE x1 x4 h) → C_34 < x4.toInt → Sat (sX15_isPass_34 F f h x0 x1 x2 x3 x4) (ZQ (ZI ρ c (0) (1)) (fun o => (¬ o.1.toInt = 0) → PE x1 o.2)) := by
      intro h' x0' x1' x2' x3' x4' o_x1' T' r_x0' r_x1' i_x2' i_x3' i_x4' pp' hl
      exact ih o_x1' T' r_x0' r_x1' i_x2' i_x3' i_x4' pp' (by have := i_x4'.1; have := i_x4'.2; omega)
    have hc_34 : C_34 ≤ x4.toInt := by omega
    refine s_br (fun c_1 => ?_) (fun c_1 => ?_)
    · have _ := c_1
      refine s_pu (fun o_2z e_2 => ?_)
      try dsimp only
      have i_o_2z : Rg (0) (1) (o_2z) := by rw [e_2]; exact (rg_and (rg_b rfl : Rg (1) (1) ((1 : Int32))) (by decide) : Rg (0) (1) ((x3 - (1 : Int32)) &&& (1 : Int32)))
      have m_3 : Rg (0) (8) ((0 : Int32)) := (rg_m (rg_b rfl : Rg (0) (0) ((0 : Int32))) (by decide))
      exact zX15_isPass_75 hF (pmA_s hA rfl) F o_x1 T r_x0 r_x1 i_x2 i_x3 i_o_2z (rg_m (rg_b rfl : Rg (0) (0) ((0 : Int32))) (by decide)) (pp_e pp c_1) (by have := m_3.1; have := m_3.2; omega)
    · have _ := c_1
      have i_f_4 : Rg (1) (63) (x4) := rg_lt1 (nle_lt c_1) i_x4 (thI T r_x1 (k := 13) (i := 3) rfl : Rg (0) (64) ((hI h x1 3)))
      have i_f_5 : Rg (2) (64) ((hI h x1 3)) := rg_lt2 (nle_lt c_1) i_x4 (thI T r_x1 (k := 13) (i := 3) rfl : Rg (0) (64) ((hI h x1 3)))
      obtain ⟨r_3, e_r_3, q_r_3⟩ := thR T r_x1 (k := 13) (i := 0) (k2 := 62) rfl (by decide)
      refine s_ref e_r_3 ?_
      obtain ⟨r_4, e_r_4, q_r_4⟩ := thR T r_x1 (k := 13) (i := 4) (k2 := 63) rfl (by decide)
      refine s_ref e_r_4 ?_
      refine s_gd (by rw [thN T q_r_4 (k := 63) (n := 64) rfl (by decide)]; exact rg_inB ((rg_m i_f_4 (by decide)) : Rg (0) (63) (x4)) (by decide)) ?_
      refine s_gd (by rw [thN T q_r_3 (k := 62) (n := 64) rfl (by decide)]; exact rg_inB ((thI T q_r_4 (k := 63) rfl : Rg (0) (63) ((hI h r_4 x4.toNatClampNeg))) : Rg (0) (63) ((hI h r_4 x4.toNatClampNeg))) (by decide)) ?_
      refine s_br (fun c_6 => ?_) (fun c_6 => ?_)
      · have _ := c_6
        have i_f_7 : Rg (0) (0) ((hI h r_3 (hI h r_4 x4.toNatClampNeg).toNatClampNeg)) := rg_le1 c_6 (thI T q_r_3 (k := 62) rfl : Rg (0) (24) ((hI h r_3 (hI h r_4 x4.toNatClampNeg).toNatClampNeg))) (rg_b rfl : Rg (0) (0) (0 : Int32))
        refine s_q (fun v_8 e_8 => ?_)
        have i_v_8 : Rg (2) (64) (v_8) := by rw [e_8]; exact (rg_add i_f_4 (rg_b rfl : Rg (1) (1) ((1 : Int32))) (by decide) : Rg (2) (64) (x4 + (1 : Int32)))
        have m_9 : (v_8).toInt = x4.toInt + 1 := by rw [e_8]; exact rg_inc i_f_4 (by decide)
        exact hk_34 o_x1 T r_x0 r_x1 i_x2 i_x3 (rg_m i_v_8 (by decide)) (pp_s pp (rg_m i_f_4 (by decide)) e_r_3 e_r_4 c_6 e_8) (by have := hc_34; omega)
      · have _ := c_6
        have i_f_10 : Rg (1) (24) ((hI h r_3 (hI h r_4 x4.toNatClampNeg).toNatClampNeg)) := rg_lt2 (nle_lt c_6) (rg_b rfl : Rg (0) (0) (0 : Int32)) (thI T q_r_3 (k := 62) rfl : Rg (0) (24) ((hI h r_3 (hI h r_4 x4.toNatClampNeg).toNatClampNeg)))
        exact s_some ⟨⟨(T), (rg_m (rg_b rfl : Rg (0) (0) ((0 : Int32))) (by decide))⟩, (fun q => absurd q (show ¬ (¬ ((0 : Int32)).toInt = 0) from (by have : ((0 : Int32)).toInt = 0 := rfl; have := (i_f_4 : Rg (1) (63) (x4)).1; have := (i_f_4 : Rg (1) (63) (x4)).2; have := nle_i c_1; have := (i_f_5 : Rg (2) (64) ((hI h x1 3))).1; have := (i_f_5 : Rg (2) (64) ((hI h x1 3))).2; have := nle_i c_6; have := (i_f_10 : Rg (1) (24) ((hI h r_3 (hI h r_4 x4.toNatClampNeg).toNatClampNeg))).1; have := (i_f_10 : Rg (1) (24) ((hI h r_3 (hI h r_4 x4.toNatClampNeg).toNatClampNeg))).2; have : (0 : Int32).toInt = 0 := rfl; clear o_x1; omega)))⟩
set_option maxRecDepth 20000 in
theorem zX15_isPass {ρ : Nat → Nat} {c : Cm} {F : Nat} {w_x1 : Nat} (hF : 700000 ≤ F) (hA : pmA c [(16, 23), (16, 24)]) {h : Hp} {x0 : Nat} {x1 : Nat} (o_x1 : cw c x1 = w_x1) (T : TH ρ c h) (r_x0 : ρ x0 = 16) (r_x1 : ρ x1 = 13) : Sat (sX15_isPass F h x0 x1) (ZQ (ZI ρ c (0) (1)) (fun o => (¬ o.1.toInt = 0) → PE x1 o.2)) := by
  unfold sX15_isPass sX15_isPass_29 sX15_sideOf
  obtain ⟨r_1, e_r_1, q_r_1⟩ := thR T r_x1 (k := 13) (i := 4) (k2 := 63) rfl (by decide)
  refine s_ref e_r_1 ?_
  refine s_gd (by rw [thN T q_r_1 (k := 63) (n := 64) rfl (by decide)]; exact rg_inB ((rg_m (rg_b rfl : Rg (0) (0) ((0 : Int32))) (by decide)) : Rg (0) (63) ((0 : Int32))) (by decide)) ?_
  refine s_q (fun v_3 e_1 => ?_)
  have i_v_3 : Rg (0) (63) (v_3) := by rw [e_1]; exact (thI T q_r_1 (k := 63) rfl : Rg (0) (63) (hI h r_1 (0 : Int32).toNatClampNeg))
  obtain ⟨r_4, e_r_4, q_r_4⟩ := thR T r_x1 (k := 13) (i := 0) (k2 := 62) rfl (by decide)
  refine s_ref e_r_4 ?_
  refine s_gd (by rw [thN T q_r_4 (k := 62) (n := 64) rfl (by decide)]; exact rg_inB (i_v_3 : Rg (0) (63) (v_3)) (by decide)) ?_
  refine s_q (fun v_6 e_2 => ?_)
  have i_v_6 : Rg (0) (24) (v_6) := by rw [e_2]; exact (thI T q_r_4 (k := 62) rfl : Rg (0) (24) (hI h r_4 v_3.toNatClampNeg))
  refine s_br (fun c_3 => ?_) (fun c_3 => ?_)
  · have _ := c_3
    have i_f_4 : Rg (0) (0) (v_6) := rg_eq c_3 (rg_b rfl : Rg (0) (0) (0 : Int32))
    exact s_some ⟨⟨(T), (rg_m (rg_b rfl : Rg (0) (0) ((0 : Int32))) (by decide))⟩, (fun q => absurd q (show ¬ (¬ ((0 : Int32)).toInt = 0) from (by have : ((0 : Int32)).toInt = 0 := rfl; clear o_x1; omega)))⟩
  · have _ := c_3
    have i_f_5 : Rg (1) (24) (v_6) := rg_nlo c_3 i_v_6 (rg_b rfl : Rg (0) (0) (0 : Int32))
    refine s_pu (fun o_8z e_6 => ?_)
    try dsimp only
    have i_o_8z : Rg (0) (1) (o_8z) := by rw [e_6]; exact (rg_and (rg_b rfl : Rg (1) (1) ((1 : Int32))) (by decide) : Rg (0) (1) ((v_6 - (1 : Int32)) &&& (1 : Int32)))
    refine s_br (fun c_7 => ?_) (fun c_7 => ?_)
    · have _ := c_7
      exact s_some ⟨⟨(T), (rg_m (rg_b rfl : Rg (0) (0) ((0 : Int32))) (by decide))⟩, (fun q => absurd q (show ¬ (¬ ((0 : Int32)).toInt = 0) from (by have : ((0 : Int32)).toInt = 0 := rfl; clear o_x1; omega)))⟩
    · have _ := c_7
      have m_8 : Rg (1) (64) ((1 : Int32)) := (rg_m (rg_b rfl : Rg (1) (1) ((1 : Int32))) (by decide))
      exact zX15_isPass_34 hF (pmA_s hA rfl) F o_x1 T r_x0 r_x1 i_v_3 i_f_5 (rg_m (rg_b rfl : Rg (1) (1) ((1 : Int32))) (by decide)) pp_1 (by have := m_8.1; have := m_8.2; omega)
set_option maxRecDepth 20000 in
theorem zX15_isRight {ρ : Nat → Nat} {c : Cm} {F : Nat} (hF : 700000 ≤ F) {h : Hp} {x0 : Nat} {x1 : Nat} {x2 : Int32} (T : TH ρ c h) (r_x0 : ρ x0 = 16) (r_x1 : ρ x1 = 13) (i_x2 : Rg (0) (63) (x2)) : Sat (sX15_isRight F h x0 x1 x2) (ZI0 h (0) (1)) := by
  unfold sX15_isRight sX15_isRight_49 sX15_manOf sX15_sideOf sX15_isRight_86 sX15_isRight_87
  obtain ⟨r_1, e_r_1, q_r_1⟩ := thR T r_x1 (k := 13) (i := 0) (k2 := 62) rfl (by decide)
  refine s_ref e_r_1 ?_
  refine s_gd (by rw [thN T q_r_1 (k := 62) (n := 64) rfl (by decide)]; exact rg_inB (i_x2 : Rg (0) (63) (x2)) (by decide)) ?_
  refine s_q (fun v_3 e_1 => ?_)
  have i_v_3 : Rg (0) (24) (v_3) := by rw [e_1]; exact (thI T q_r_1 (k := 62) rfl : Rg (0) (24) (hI h r_1 x2.toNatClampNeg))
  refine s_br (fun c_2 => ?_) (fun c_2 => ?_)
  · have _ := c_2
    have i_f_3 : Rg (0) (0) (v_3) := rg_eq c_2 (rg_b rfl : Rg (0) (0) (0 : Int32))
    exact s_some ⟨rfl, (rg_m (rg_b rfl : Rg (0) (0) ((0 : Int32))) (by decide))⟩
  · have _ := c_2
    have i_f_4 : Rg (1) (24) (v_3) := rg_nlo c_2 i_v_3 (rg_b rfl : Rg (0) (0) (0 : Int32))
    obtain ⟨r_5, e_r_5, q_r_5⟩ := thR T r_x0 (k := 16) (i := 4) (k2 := 15) rfl (by decide)
    refine s_ref e_r_5 ?_
    refine s_br (fun c_5 => ?_) (fun c_5 => ?_)
    · have _ := c_5
      have i_f_6 : Rg (-1) (-1) ((hI h r_5 12)) := rg_eq c_5 (rg_b rfl : Rg (-1) (-1) ((- 1 : Int32)))
      exact s_some ⟨rfl, (rg_m (rg_b rfl : Rg (0) (0) ((0 : Int32))) (by decide))⟩
    · have _ := c_5
      have i_f_7 : Rg (0) (11) ((hI h r_5 12)) := rg_nlo c_5 (thI T q_r_5 (k := 15) (i := 12) rfl : Rg (-1) (11) ((hI h r_5 12))) (rg_b rfl : Rg (-1) (-1) ((- 1 : Int32)))
      refine s_pu (fun o_7z e_8 => ?_)
      try dsimp only
      have i_o_7z : Rg (0) (11) (o_7z) := by rw [e_8]; exact (rg_shrk 1 (by decide) (rg_sub i_f_4 (rg_b rfl : Rg (1) (1) ((1 : Int32))) (by decide) : Rg (0) (23) ((v_3 - (1 : Int32)))) (by decide) : Rg (0) (11) ((v_3 - (1 : Int32)) >>> ((1 : Int32) &&& 31)))
      refine s_ref e_r_5 ?_
      refine s_br (fun c_9 => ?_) (fun c_9 => ?_)
      · have _ := c_9
        refine s_pu (fun o_10z e_10 => ?_)
        try dsimp only
        have i_o_10z : Rg (0) (1) (o_10z) := by rw [e_10]; exact (rg_and (rg_b rfl : Rg (1) (1) ((1 : Int32))) (by decide) : Rg (0) (1) ((v_3 - (1 : Int32)) &&& (1 : Int32)))
        refine s_dI0 (zX15_rankFor hF T r_x0 i_x2 i_o_10z) (fun o_11 eb_o_11 e_o_11 i_o_11 => ?_)
        have T_11 := th_eq e_o_11 T
        refine s_br (fun c_12 => ?_) (fun c_12 => ?_)
        · have _ := c_12
          have i_f_13 : Rg (1) (1) (o_11.1) := rg_eq c_12 (rg_b rfl : Rg (1) (1) ((1 : Int32)))
          refine s_pu (fun o_13z e_14 => ?_)
          try dsimp only
          have i_o_13z : Rg (0) (1) (o_13z) := by rw [e_14]; exact (rg_and (rg_b rfl : Rg (1) (1) ((1 : Int32))) (by decide) : Rg (0) (1) ((v_3 - (1 : Int32)) &&& (1 : Int32)))
          refine s_dI0 (zX15_royalOf hF T_11 r_x0 r_x1 i_o_13z) (fun o_14 eb_o_14 e_o_14 i_o_14 => ?_)
          have T_15 := th_eq e_o_14 T_11
          refine s_br (fun c_16 => ?_) (fun c_16 => ?_)
          · have _ := c_16
            have i_f_17 : Rg (-1) (-1) (o_14.1) := rg_eq c_16 (rg_b rfl : Rg (-1) (-1) ((- 1 : Int32)))
            refine s_gd (rg_bool (rg_m (rg_b rfl : Rg (0) (0) ((0 : Int32))) (by decide))) ?_
            exact s_some ⟨(e_o_14.trans (e_o_11.trans rfl)), (rg_m (rg_b rfl : Rg (0) (0) ((0 : Int32))) (by decide))⟩
          · have _ := c_16
            have i_f_18 : Rg (0) (63) (o_14.1) := rg_nlo c_16 i_o_14 (rg_b rfl : Rg (-1) (-1) ((- 1 : Int32)))
            refine s_pu (fun o_16z e_19 => ?_)
            try dsimp only
            have i_o_16z : Rg (0) (1) (o_16z) := by rw [e_19]; exact (rg_and (rg_b rfl : Rg (1) (1) ((1 : Int32))) (by decide) : Rg (0) (1) ((v_3 - (1 : Int32)) &&& (1 : Int32)))
            refine s_dI0 (zX15_rankFor hF T_15 r_x0 i_f_18 i_o_16z) (fun o_17 eb_o_17 e_o_17 i_o_17 => ?_)
            have T_20 := th_eq e_o_17 T_15
            refine s_br (fun c_21 => ?_) (fun c_21 => ?_)
            · have _ := c_21
              have i_f_22 : Rg (1) (1) (o_17.1) := rg_eq c_21 (rg_b rfl : Rg (1) (1) ((1 : Int32)))
              refine s_gd (rg_bool (rg_m (rg_b rfl : Rg (1) (1) ((1 : Int32))) (by decide))) ?_
              exact s_some ⟨(e_o_17.trans (e_o_14.trans (e_o_11.trans rfl))), (rg_m (rg_b rfl : Rg (1) (1) ((1 : Int32))) (by decide))⟩
            · have _ := c_21
              refine s_gd (rg_bool (rg_m (rg_b rfl : Rg (0) (0) ((0 : Int32))) (by decide))) ?_
              exact s_some ⟨(e_o_17.trans (e_o_14.trans (e_o_11.trans rfl))), (rg_m (rg_b rfl : Rg (0) (0) ((0 : Int32))) (by decide))⟩
        · have _ := c_12
          exact s_some ⟨(e_o_11.trans rfl), (rg_m (rg_b rfl : Rg (0) (0) ((0 : Int32))) (by decide))⟩
      · have _ := c_9
        exact s_some ⟨rfl, (rg_m (rg_b rfl : Rg (0) (0) ((0 : Int32))) (by decide))⟩
set_option maxRecDepth 20000 in
theorem zX15_wrongOf_368 {ρ : Nat → Nat} {c : Cm} {F : Nat} {w_x1 : Nat} (hF : 700000 ≤ F) : ∀ (f : Nat) {h : Hp} {x0 : Nat} {x1 : Nat} {x5 : Int32}, cw c x1 = w_x1 → TH ρ c h → ρ x0 = 16 → ρ x1 = 13 → Rg (0) (24) (x5) → (PE x1 h) → (24 - x5.toInt).toNat < f → Sat (sX15_wrongOf_368 F f h x0 x1 x5) (ZQ (ZI ρ c (0) (8)) (fun o => (o.1.toInt = 0) → PE x1 o.2)) := by
  intro f
  induction f with
  | zero => intros; omega
  | succ f ih =>
    intro h x0 x1 x5 o_x1 T r_x0 r_x1 i_x5 pe hm
    rw [sX15_wrongOf_368]
    unfold sX15_wrongOf_404
    obtain ⟨C_368, hC_368⟩ : ∃ C : Int, C = x5.toInt := ⟨_, rfl⟩
    have hk_368 : ∀ {h : Hp} {x0 : Nat} {x1 : Nat} {x5 : Int32}, cw c x1 = w_x1 → TH ρ c h → ρ x0 = 16 → ρ x1 = 13 → Rg (0) (24) (x5) → (PE x1 h) → C_368 < x5.toInt → Sat (sX15_wrongOf_368 F f h x0 x1 x5) (ZQ (ZI ρ c (0) (8)) (fun o => (o.1.toInt = 0) → PE x1 o.2)) := by
      intro h' x0' x1' x5' o_x1' T' r_x0' r_x1' i_x5' pe' hl
      exact ih o_x1' T' r_x0' r_x1' i_x5' pe' (by have := i_x5'.1; have := i_x5'.2; omega)
    have hc_368 : C_368 ≤ x5.toInt := by omega
    refine s_br (fun c_1 => ?_) (fun c_1 => ?_)
    · have _ := c_1
      have i_f_2 : Rg (24) (24) (x5) := rg_le2 c_1 (rg_b rfl : Rg (24) (24) ((24 : Int32))) i_x5
      exact s_some ⟨⟨(T), (rg_m (rg_b rfl : Rg (0) (0) ((0 : Int32))) (by decide))⟩, (fun _ => pe)⟩
    · have _ := c_1
      have i_f_3 : Rg (0) (23) (x5) := rg_lt1 (nle_lt c_1) i_x5 (rg_b rfl : Rg (24) (24) ((24 : Int32)))
      obtain ⟨r_2, e_r_2, q_r_2⟩ := thR T r_x0 (k := 16) (i := 4) (k2 := 15) rfl (by decide)
      refine s_ref e_r_2 ?_
      refine s_br (fun c_4 => ?_) (fun c_4 => ?_)
      · have _ := c_4
        have i_f_5 : Rg (0) (0) ((hI h r_2 15)) := rg_eq c_4 (rg_b rfl : Rg (0) (0) (0 : Int32))
        obtain ⟨r_4, e_r_4, q_r_4⟩ := thR T r_x1 (k := 13) (i := 5) (k2 := 64) rfl (by decide)
        refine s_ref e_r_4 ?_
        refine s_gd (by rw [thN T q_r_4 (k := 64) (n := 24) rfl (by decide)]; exact rg_inB (i_f_3 : Rg (0) (23) (x5)) (by decide)) ?_
        refine s_br (fun c_6 => ?_) (fun c_6 => ?_)
        · have _ := c_6
          have i_f_7 : Rg (0) (0) ((hI h r_4 x5.toNatClampNeg)) := rg_le1 c_6 (thI T q_r_4 (k := 64) rfl : Rg (0) (16) ((hI h r_4 x5.toNatClampNeg))) (rg_b rfl : Rg (0) (0) (0 : Int32))
          refine s_q (fun v_7 e_8 => ?_)
          have i_v_7 : Rg (1) (24) (v_7) := by rw [e_8]; exact (rg_add i_f_3 (rg_b rfl : Rg (1) (1) ((1 : Int32))) (by decide) : Rg (1) (24) (x5 + (1 : Int32)))
          have m_9 : (v_7).toInt = x5.toInt + 1 := by rw [e_8]; exact rg_inc i_f_3 (by decide)
          exact hk_368 o_x1 T r_x0 r_x1 (rg_m i_v_7 (by decide)) pe (by have := hc_368; omega)
        · have _ := c_6
          have i_f_10 : Rg (1) (16) ((hI h r_4 x5.toNatClampNeg)) := rg_lt2 (nle_lt c_6) (rg_b rfl : Rg (0) (0) (0 : Int32)) (thI T q_r_4 (k := 64) rfl : Rg (0) (16) ((hI h r_4 x5.toNatClampNeg)))
          exact s_some ⟨⟨(T), (rg_m (rg_b rfl : Rg (8) (8) ((8 : Int32))) (by decide))⟩, (fun q => absurd q (show ¬ (((8 : Int32)).toInt = 0) from (by have : ((8 : Int32)).toInt = 8 := rfl; clear o_x1; omega)))⟩
      · have _ := c_4
        have i_f_11 : Rg (1) (1) ((hI h r_2 15)) := rg_nlo c_4 (thI T q_r_2 (k := 15) (i := 15) rfl : Rg (0) (1) ((hI h r_2 15))) (rg_b rfl : Rg (0) (0) (0 : Int32))
        exact s_some ⟨⟨(T), (rg_m (rg_b rfl : Rg (0) (0) ((0 : Int32))) (by decide))⟩, (fun _ => pe)⟩
set_option maxRecDepth 20000 in
theorem zX15_wrongOf_70 {ρ : Nat → Nat} {c : Cm} {F : Nat} {w_x1 : Nat} (hF : 700000 ≤ F) {k_18 : Hp → Nat → Nat → Int32 → Int32 → Option (Int32 × Hp)} {C_18 : Int} (hk_18 : ∀ {h : Hp} {x0 : Nat} {x1 : Nat} {x2 : Int32} {x3 : Int32}, cw c x1 = w_x1 → TH ρ c h → ρ x0 = 16 → ρ x1 = 13 → Rg (0) (1) (x2) → Rg (0) (64) (x3) → C_18 < x3.toInt → Sat (k_18 h x0 x1 x2 x3) (ZQ (ZI ρ c (0) (8)) (fun o => (o.1.toInt = 0) → PE x1 o.2))) (hA : pmA c [(86, 999)]) {h : Hp} {x0 : Nat} {x1 : Nat} {x2 : Int32} {x3 : Int32} {x4 : Int32} {t0 : Int32} {t1 : Int32} {t2 : Int32} {t3 : Nat} (o_x1 : cw c x1 = w_x1) (T : TH ρ c h) (r_x0 : ρ x0 = 16) (r_x1 : ρ x1 = 13) (i_x2 : Rg (0) (1) (x2)) (i_x3 : Rg (0) (63) (x3)) (i_x4 : Rg (1) (24) (x4)) (i_t0 : Rg (0) (1) (t0)) (i_t1 : Rg (-2147483648) (2147483647) (t1)) (i_t2 : Rg (0) (1) (t2)) (r_t3 : ρ t3 = 86) (hc_18 : C_18 ≤ x3.toInt) : Sat (sX15_wrongOf_70 F k_18 h x0 x1 x2 x3 x4 t0 t1 t2 t3) (ZQ (ZI ρ c (0) (8)) (fun o => (o.1.toInt = 0) → PE x1 o.2)) := by
  unfold sX15_wrongOf_70 sX15_manOf sX15_wrongOf_106 sX15_wrongOf_107 sX15_wrongOf_109 sX15_sideOf
  refine s_gd (by rw [thN T r_t3 (k := 86) (n := 2) rfl (by decide)]; exact rg_inB (i_t2 : Rg (0) (1) (t2)) (by decide)) ?_
  refine s_hq (th_wI T r_t3 (k := 86) (lo := (-2147483648)) (hi := (2147483647)) rfl ((rg_top _ : Rg (-2147483648) (2147483647) ((t1 + t0))) : Rg (-2147483648) (2147483647) ((t1 + t0))) (by decide) (by decide) (pm_a hA rfl)) (fun h_2 T_1 w_2 => ?_)
  refine s_pu (fun o_3z e_3 => ?_)
  try dsimp only
  have i_o_3z : Rg (0) (11) (o_3z) := by rw [e_3]; exact (rg_shrk 1 (by decide) (rg_sub i_x4 (rg_b rfl : Rg (1) (1) ((1 : Int32))) (by decide) : Rg (0) (23) ((x4 - (1 : Int32)))) (by decide) : Rg (0) (11) ((x4 - (1 : Int32)) >>> ((1 : Int32) &&& 31)))
  refine s_dI0 (zX15_becomesOthers hF T_1 r_x0 i_o_3z) (fun o_4 eb_o_4 e_o_4 i_o_4 => ?_)
  have T_4 := th_eq e_o_4 T_1
  refine s_br (fun c_5 => ?_) (fun c_5 => ?_)
  · have _ := c_5
    have i_f_6 : Rg (0) (0) (o_4.1) := rg_eq c_5 (rg_b rfl : Rg (0) (0) (0 : Int32))
    refine s_q (fun v_1q2 e_7 => ?_)
    have i_v_1q2 : Rg (0) (1) (v_1q2) := by rw [e_7]; exact (rg_or (n := 1) (rg_m i_x2 (by decide) : Rg (0) (1) (x2)) (rg_m (rg_b rfl : Rg (0) (0) ((0 : Int32))) (by decide) : Rg (0) (0) ((0 : Int32))) (by decide) : Rg (0) (1) (x2 ||| (0 : Int32)))
    refine s_q (fun v_1q3 e_8 => ?_)
    have i_v_1q3 : Rg (1) (64) (v_1q3) := by rw [e_8]; exact (rg_add i_x3 (rg_b rfl : Rg (1) (1) ((1 : Int32))) (by decide) : Rg (1) (64) (x3 + (1 : Int32)))
    have m_9 : (v_1q3).toInt = x3.toInt + 1 := by rw [e_8]; exact rg_inc i_x3 (by decide)
    exact hk_18 o_x1 T_4 r_x0 r_x1 i_v_1q2 (rg_m i_v_1q3 (by decide)) (by have := hc_18; omega)
  · have _ := c_5
    have i_f_10 : Rg (1) (1) (o_4.1) := rg_nlo c_5 i_o_4 (rg_b rfl : Rg (0) (0) (0 : Int32))
    refine s_pu (fun o_6z e_11 => ?_)
    try dsimp only
    have i_o_6z : Rg (0) (1) (o_6z) := by rw [e_11]; exact (rg_and (rg_b rfl : Rg (1) (1) ((1 : Int32))) (by decide) : Rg (0) (1) ((x4 - (1 : Int32)) &&& (1 : Int32)))
    refine s_dI0 (zX15_rankFor hF T_4 r_x0 i_x3 i_o_6z) (fun o_7 eb_o_7 e_o_7 i_o_7 => ?_)
    have T_12 := th_eq e_o_7 T_4
    refine s_br (fun c_13 => ?_) (fun c_13 => ?_)
    · have _ := c_13
      have i_f_14 : Rg (3) (8) (o_7.1) := rg_eq c_13 (thI T_12 r_x0 (k := 16) (i := 12) rfl : Rg (3) (8) ((hI o_7.2 x0 12)))
      refine s_q (fun v_1q4 e_15 => ?_)
      have i_v_1q4 : Rg (0) (1) (v_1q4) := by rw [e_15]; exact (rg_or (n := 1) (rg_m i_x2 (by decide) : Rg (0) (1) (x2)) (rg_m (rg_b rfl : Rg (1) (1) ((1 : Int32))) (by decide) : Rg (0) (1) ((1 : Int32))) (by decide) : Rg (0) (1) (x2 ||| (1 : Int32)))
      refine s_q (fun v_1q5 e_16 => ?_)
      have i_v_1q5 : Rg (1) (64) (v_1q5) := by rw [e_16]; exact (rg_add i_x3 (rg_b rfl : Rg (1) (1) ((1 : Int32))) (by decide) : Rg (1) (64) (x3 + (1 : Int32)))
      have m_17 : (v_1q5).toInt = x3.toInt + 1 := by rw [e_16]; exact rg_inc i_x3 (by decide)
      exact hk_18 o_x1 T_12 r_x0 r_x1 i_v_1q4 (rg_m i_v_1q5 (by decide)) (by have := hc_18; omega)
    · have _ := c_13
      refine s_q (fun v_1q7 e_18 => ?_)
      have i_v_1q7 : Rg (0) (1) (v_1q7) := by rw [e_18]; exact (rg_or (n := 1) (rg_m i_x2 (by decide) : Rg (0) (1) (x2)) (rg_m (rg_b rfl : Rg (0) (0) ((0 : Int32))) (by decide) : Rg (0) (0) ((0 : Int32))) (by decide) : Rg (0) (1) (x2 ||| (0 : Int32)))
      refine s_q (fun v_1q8 e_19 => ?_)
      have i_v_1q8 : Rg (1) (64) (v_1q8) := by rw [e_19]; exact (rg_add i_x3 (rg_b rfl : Rg (1) (1) ((1 : Int32))) (by decide) : Rg (1) (64) (x3 + (1 : Int32)))
      have m_20 : (v_1q8).toInt = x3.toInt + 1 := by rw [e_19]; exact rg_inc i_x3 (by decide)
      exact hk_18 o_x1 T_12 r_x0 r_x1 i_v_1q7 (rg_m i_v_1q8 (by decide)) (by have := hc_18; omega)
set_option maxRecDepth 20000 in
theorem zX15_wrongOf_336 {ρ : Nat → Nat} {c : Cm} {F : Nat} {w_x1 : Nat} (hF : 700000 ≤ F) {h : Hp} {x0 : Nat} {x1 : Nat} (o_x1 : cw c x1 = w_x1) (T : TH ρ c h) (r_x0 : ρ x0 = 16) (r_x1 : ρ x1 = 13) (pe : (PE x1 h)) : Sat (sX15_wrongOf_336 F h x0 x1) (ZQ (ZI ρ c (0) (8)) (fun o => (o.1.toInt = 0) → PE x1 o.2)) := by
  unfold sX15_wrongOf_336 sX15_wrongOf_365
  obtain ⟨r_1, e_r_1, q_r_1⟩ := thR T r_x0 (k := 16) (i := 4) (k2 := 15) rfl (by decide)
  refine s_ref e_r_1 ?_
  refine s_br (fun c_1 => ?_) (fun c_1 => ?_)
  · have _ := c_1
    have i_f_2 : Rg (0) (0) ((hI h r_1 20)) := rg_eq c_1 (rg_b rfl : Rg (0) (0) (0 : Int32))
    obtain ⟨r_3, e_r_3, q_r_3⟩ := thR T r_x1 (k := 13) (i := 6) (k2 := 65) rfl (by decide)
    refine s_ref e_r_3 ?_
    refine s_gd (by rw [thN T q_r_3 (k := 65) (n := 2) rfl (by decide)]; exact rg_inB ((rg_m (rg_b rfl : Rg (0) (0) ((0 : Int32))) (by decide)) : Rg (0) (1) ((0 : Int32))) (by decide)) ?_
    refine s_ref e_r_3 ?_
    refine s_gd (by rw [thN T q_r_3 (k := 65) (n := 2) rfl (by decide)]; exact rg_inB ((rg_m (rg_b rfl : Rg (1) (1) ((1 : Int32))) (by decide)) : Rg (0) (1) ((1 : Int32))) (by decide)) ?_
    refine s_br (fun c_3 => ?_) (fun c_3 => ?_)
    · have _ := c_3
      have i_f_4 : Rg (0) (0) (((hI h r_3 (0 : Int32).toNatClampNeg) + (hI h r_3 (1 : Int32).toNatClampNeg))) := rg_le1 c_3 (rg_add (thI T q_r_3 (k := 65) rfl : Rg (0) (9) ((hI h r_3 (0 : Int32).toNatClampNeg))) (thI T q_r_3 (k := 65) rfl : Rg (0) (9) ((hI h r_3 (1 : Int32).toNatClampNeg))) (by decide) : Rg (0) (18) (((hI h r_3 (0 : Int32).toNatClampNeg) + (hI h r_3 (1 : Int32).toNatClampNeg)))) (rg_b rfl : Rg (0) (0) (0 : Int32))
      have m_5 : Rg (0) (24) ((0 : Int32)) := (rg_m (rg_b rfl : Rg (0) (0) ((0 : Int32))) (by decide))
      exact zX15_wrongOf_368 hF F o_x1 T r_x0 r_x1 (rg_m (rg_b rfl : Rg (0) (0) ((0 : Int32))) (by decide)) pe (by have := m_5.1; have := m_5.2; omega)
    · have _ := c_3
      have i_f_6 : Rg (1) (18) (((hI h r_3 (0 : Int32).toNatClampNeg) + (hI h r_3 (1 : Int32).toNatClampNeg))) := rg_lt2 (nle_lt c_3) (rg_b rfl : Rg (0) (0) (0 : Int32)) (rg_add (thI T q_r_3 (k := 65) rfl : Rg (0) (9) ((hI h r_3 (0 : Int32).toNatClampNeg))) (thI T q_r_3 (k := 65) rfl : Rg (0) (9) ((hI h r_3 (1 : Int32).toNatClampNeg))) (by decide) : Rg (0) (18) (((hI h r_3 (0 : Int32).toNatClampNeg) + (hI h r_3 (1 : Int32).toNatClampNeg))))
      exact s_some ⟨⟨(T), (rg_m (rg_b rfl : Rg (7) (7) ((7 : Int32))) (by decide))⟩, (fun q => absurd q (show ¬ (((7 : Int32)).toInt = 0) from (by have : ((7 : Int32)).toInt = 7 := rfl; clear o_x1; omega)))⟩
  · have _ := c_1
    have i_f_7 : Rg (1) (9) ((hI h r_1 20)) := rg_nlo c_1 (thI T q_r_1 (k := 15) (i := 20) rfl : Rg (0) (9) ((hI h r_1 20))) (rg_b rfl : Rg (0) (0) (0 : Int32))
    have m_8 : Rg (0) (24) ((0 : Int32)) := (rg_m (rg_b rfl : Rg (0) (0) ((0 : Int32))) (by decide))
    exact zX15_wrongOf_368 hF F o_x1 T r_x0 r_x1 (rg_m (rg_b rfl : Rg (0) (0) ((0 : Int32))) (by decide)) pe (by have := m_8.1; have := m_8.2; omega)
set_option maxRecDepth 20000 in
theorem zX15_wrongOf_300 {ρ : Nat → Nat} {c : Cm} {F : Nat} {w_x1 : Nat} (hF : 700000 ≤ F) (hA : pmA c [(16, 23), (16, 24)]) {h : Hp} {x0 : Nat} {x1 : Nat} (o_x1 : cw c x1 = w_x1) (T : TH ρ c h) (r_x0 : ρ x0 = 16) (r_x1 : ρ x1 = 13) (pe : (PE x1 h)) : Sat (sX15_wrongOf_300 F h x0 x1) (ZQ (ZI ρ c (0) (8)) (fun o => (o.1.toInt = 0) → PE x1 o.2)) := by
  unfold sX15_wrongOf_300 
  refine s_dI0 (zX15_royalOf hF T r_x0 r_x1 (rg_sub (rg_b rfl : Rg (1) (1) ((1 : Int32))) (thI T r_x1 (k := 13) (i := 1) rfl : Rg (0) (1) ((hI h x1 1))) (by decide) : Rg (0) (1) (((1 : Int32) - (hI h x1 1))))) (fun o_1 eb_o_1 e_o_1 i_o_1 => ?_)
  have T_1 := th_eq e_o_1 T
  refine s_br (fun c_2 => ?_) (fun c_2 => ?_)
  · have _ := c_2
    have i_f_3 : Rg (-1) (-1) (o_1.1) := rg_eq c_2 (rg_b rfl : Rg (-1) (-1) ((- 1 : Int32)))
    have pf_4 : PE x1 o_1.2 := (by rw [e_o_1]; exact pe)
    exact zX15_wrongOf_336 hF o_x1 T_1 r_x0 r_x1 pf_4
  · have _ := c_2
    have i_f_5 : Rg (0) (63) (o_1.1) := rg_nlo c_2 i_o_1 (rg_b rfl : Rg (-1) (-1) ((- 1 : Int32)))
    refine s_cIf (S := fS [(16, 23), (16, 24)] []) T_1 (fs_sub (pmA_s hA rfl) fs_n) (zX15_isAttacked hF fs_a o_x1 (th_in _ T_1) r_x0 r_x1 i_f_5 (thI T_1 r_x1 (k := 13) (i := 1) rfl : Rg (0) (1) ((hI o_1.2 x1 1)))) (fun o_3 T_6 i_o_3 f_o_3 => ?_)
    refine s_br (fun c_7 => ?_) (fun c_7 => ?_)
    · have _ := c_7
      have i_f_8 : Rg (0) (0) (o_3.1) := rg_eq c_7 (rg_b rfl : Rg (0) (0) (0 : Int32))
      have pf_9 : PE x1 o_3.2 := (pe_fr T_1 r_x1 f_o_3 rfl rfl rfl (fun _ => rfl) (fun _ => rfl) (by rw [e_o_1]; exact pe))
      exact zX15_wrongOf_336 hF o_x1 T_6 r_x0 r_x1 pf_9
    · have _ := c_7
      have i_f_10 : Rg (1) (1) (o_3.1) := rg_nlo c_7 i_o_3 (rg_b rfl : Rg (0) (0) (0 : Int32))
      exact s_some ⟨⟨(T_6), (rg_m (rg_b rfl : Rg (6) (6) ((6 : Int32))) (by decide))⟩, (fun q => absurd q (show ¬ (((6 : Int32)).toInt = 0) from (by have : ((6 : Int32)).toInt = 6 := rfl; clear o_x1; omega)))⟩
set_option maxRecDepth 20000 in
theorem zX15_wrongOf_242 {ρ : Nat → Nat} {c : Cm} {F : Nat} {w_x1 : Nat} (hF : 700000 ≤ F) (hA : pmA c [(16, 23), (16, 24)]) : ∀ (f : Nat) {h : Hp} {x0 : Nat} {x1 : Nat} {x4 : Int32}, cw c x1 = w_x1 → TH ρ c h → ρ x0 = 16 → ρ x1 = 13 → Rg (0) (64) (x4) → (64 - x4.toInt).toNat < f → Sat (sX15_wrongOf_242 F f h x0 x1 x4) (ZQ (ZI ρ c (0) (8)) (fun o => (o.1.toInt = 0) → PE x1 o.2)) := by
  intro f
  induction f with
  | zero => intros; omega
  | succ f ih =>
    intro h x0 x1 x4 o_x1 T r_x0 r_x1 i_x4 hm
    rw [sX15_wrongOf_242]
    unfold sX15_wrongOf_277
    obtain ⟨C_242, hC_242⟩ : ∃ C : Int, C = x4.toInt := ⟨_, rfl⟩
    have hk_242 : ∀ {h : Hp} {x0 : Nat} {x1 : Nat} {x4 : Int32}, cw c x1 = w_x1 → TH ρ c h → ρ x0 = 16 → ρ x1 = 13 → Rg (0) (64) (x4) → C_242 < x4.toInt → Sat (sX15_wrongOf_242 F f h x0 x1 x4) (ZQ (ZI ρ c (0) (8)) (fun o => (o.1.toInt = 0) → PE x1 o.2)) := by
      intro h' x0' x1' x4' o_x1' T' r_x0' r_x1' i_x4' hl
      exact ih o_x1' T' r_x0' r_x1' i_x4' (by have := i_x4'.1; have := i_x4'.2; omega)
    have hc_242 : C_242 ≤ x4.toInt := by omega
    refine s_br (fun c_1 => ?_) (fun c_1 => ?_)
    · have _ := c_1
      have i_f_2 : Rg (9) (64) (x4) := rg_le2 c_1 (thI T r_x0 (k := 16) (i := 13) rfl : Rg (9) (64) ((hI h x0 13))) i_x4
      refine s_br (fun c_3 => ?_) (fun c_3 => ?_)
      · have _ := c_3
        have i_f_4 : Rg (0) (0) ((hI h x1 3)) := rg_le1 c_3 (thI T r_x1 (k := 13) (i := 3) rfl : Rg (0) (64) ((hI h x1 3))) (rg_b rfl : Rg (0) (0) (0 : Int32))
        exact zX15_wrongOf_300 hF (pmA_s hA rfl) o_x1 T r_x0 r_x1 (pe_le c_3)
      · have _ := c_3
        have i_f_5 : Rg (1) (64) ((hI h x1 3)) := rg_lt2 (nle_lt c_3) (rg_b rfl : Rg (0) (0) (0 : Int32)) (thI T r_x1 (k := 13) (i := 3) rfl : Rg (0) (64) ((hI h x1 3)))
        refine s_cIq (zX15_isPass hF (pmA_s hA rfl) o_x1 T r_x0 r_x1) (fun o_3 T_6 i_o_3 p_o_3 => ?_)
        refine s_br (fun c_7 => ?_) (fun c_7 => ?_)
        · have _ := c_7
          have i_f_8 : Rg (0) (0) (o_3.1) := rg_eq c_7 (rg_b rfl : Rg (0) (0) (0 : Int32))
          exact s_some ⟨⟨(T_6), (rg_m (rg_b rfl : Rg (5) (5) ((5 : Int32))) (by decide))⟩, (fun q => absurd q (show ¬ (((5 : Int32)).toInt = 0) from (by have : ((5 : Int32)).toInt = 5 := rfl; clear o_x1; omega)))⟩
        · have _ := c_7
          have i_f_9 : Rg (1) (1) (o_3.1) := rg_nlo c_7 i_o_3 (rg_b rfl : Rg (0) (0) (0 : Int32))
          exact zX15_wrongOf_300 hF (pmA_s hA rfl) o_x1 T_6 r_x0 r_x1 (p_o_3 (show ¬ o_3.1.toInt = 0 from (by have := (i_f_9 : Rg (1) (1) (o_3.1)).1; have := (i_f_9 : Rg (1) (1) (o_3.1)).2; have := ne_i c_7; have : (0 : Int32).toInt = 0 := rfl; clear o_x1; omega)))
    · have _ := c_1
      have i_f_10 : Rg (0) (63) (x4) := rg_lt1 (nle_lt c_1) i_x4 (thI T r_x0 (k := 16) (i := 13) rfl : Rg (9) (64) ((hI h x0 13)))
      refine s_br (fun c_11 => ?_) (fun c_11 => ?_)
      · have _ := c_11
        refine s_dI0 (zX15_isRight hF T r_x0 r_x1 i_f_10) (fun o_6 eb_o_6 e_o_6 i_o_6 => ?_)
        have T_12 := th_eq e_o_6 T
        refine s_br (fun c_13 => ?_) (fun c_13 => ?_)
        · have _ := c_13
          have i_f_14 : Rg (0) (0) (o_6.1) := rg_eq c_13 (rg_b rfl : Rg (0) (0) (0 : Int32))
          exact s_some ⟨⟨(T_12), (rg_m (rg_b rfl : Rg (4) (4) ((4 : Int32))) (by decide))⟩, (fun q => absurd q (show ¬ (((4 : Int32)).toInt = 0) from (by have : ((4 : Int32)).toInt = 4 := rfl; clear o_x1; omega)))⟩
        · have _ := c_13
          have i_f_15 : Rg (1) (1) (o_6.1) := rg_nlo c_13 i_o_6 (rg_b rfl : Rg (0) (0) (0 : Int32))
          refine s_q (fun v_1q1 e_16 => ?_)
          have i_v_1q1 : Rg (1) (64) (v_1q1) := by rw [e_16]; exact (rg_add i_f_10 (rg_b rfl : Rg (1) (1) ((1 : Int32))) (by decide) : Rg (1) (64) (x4 + (1 : Int32)))
          have m_17 : (v_1q1).toInt = x4.toInt + 1 := by rw [e_16]; exact rg_inc i_f_10 (by decide)
          exact hk_242 o_x1 T_12 r_x0 r_x1 (rg_m i_v_1q1 (by decide)) (by have := hc_242; omega)
      · have _ := c_11
        refine s_q (fun v_1q2 e_18 => ?_)
        have i_v_1q2 : Rg (1) (64) (v_1q2) := by rw [e_18]; exact (rg_add i_f_10 (rg_b rfl : Rg (1) (1) ((1 : Int32))) (by decide) : Rg (1) (64) (x4 + (1 : Int32)))
        have m_19 : (v_1q2).toInt = x4.toInt + 1 := by rw [e_18]; exact rg_inc i_f_10 (by decide)
        exact hk_242 o_x1 T r_x0 r_x1 (rg_m i_v_1q2 (by decide)) (by have := hc_242; omega)
set_option maxRecDepth 20000 in
theorem zX15_wrongOf_165 {ρ : Nat → Nat} {c : Cm} {F : Nat} {w_x1 : Nat} (hF : 700000 ≤ F) (hA : pmA c [(16, 23), (16, 24)]) {h : Hp} {x0 : Nat} {x1 : Nat} {x2 : Int32} {t0 : Int32} (o_x1 : cw c x1 = w_x1) (T : TH ρ c h) (r_x0 : ρ x0 = 16) (r_x1 : ρ x1 = 13) (i_x2 : Rg (0) (1) (x2)) (i_t0 : Rg (0) (1) (t0)) : Sat (sX15_wrongOf_165 F h x0 x1 x2 t0) (ZQ (ZI ρ c (0) (8)) (fun o => (o.1.toInt = 0) → PE x1 o.2)) := by
  unfold sX15_wrongOf_165 sX15_wrongOf_231 sX15_wrongOf_233
  obtain ⟨r_1, e_r_1, q_r_1⟩ := thR T r_x0 (k := 16) (i := 22) (k2 := 86) rfl (by decide)
  refine s_ref e_r_1 ?_
  refine s_gd (by rw [thN T q_r_1 (k := 86) (n := 2) rfl (by decide)]; exact rg_inB ((rg_m (rg_b rfl : Rg (0) (0) ((0 : Int32))) (by decide)) : Rg (0) (1) ((0 : Int32))) (by decide)) ?_
  refine s_br (fun c_1 => ?_) (fun c_1 => ?_)
  · have _ := c_1
    have i_f_2 : Rg (2) (2147483647) ((hI h r_1 (0 : Int32).toNatClampNeg)) := rg_lt2 c_1 (rg_b rfl : Rg (1) (1) ((1 : Int32))) (thI T q_r_1 (k := 86) rfl : Rg (-2147483648) (2147483647) ((hI h r_1 (0 : Int32).toNatClampNeg)))
    exact s_some ⟨⟨(T), (rg_m (rg_b rfl : Rg (2) (2) ((2 : Int32))) (by decide))⟩, (fun q => absurd q (show ¬ (((2 : Int32)).toInt = 0) from (by have : ((2 : Int32)).toInt = 2 := rfl; clear o_x1; omega)))⟩
  · have _ := c_1
    have i_f_3 : Rg (-2147483648) (1) ((hI h r_1 (0 : Int32).toNatClampNeg)) := rg_le1 (nlt_le c_1) (thI T q_r_1 (k := 86) rfl : Rg (-2147483648) (2147483647) ((hI h r_1 (0 : Int32).toNatClampNeg))) (rg_b rfl : Rg (1) (1) ((1 : Int32)))
    refine s_ref e_r_1 ?_
    refine s_gd (by rw [thN T q_r_1 (k := 86) (n := 2) rfl (by decide)]; exact rg_inB ((rg_m (rg_b rfl : Rg (1) (1) ((1 : Int32))) (by decide)) : Rg (0) (1) ((1 : Int32))) (by decide)) ?_
    refine s_br (fun c_4 => ?_) (fun c_4 => ?_)
    · have _ := c_4
      have i_f_5 : Rg (2) (2147483647) ((hI h r_1 (1 : Int32).toNatClampNeg)) := rg_lt2 c_4 (rg_b rfl : Rg (1) (1) ((1 : Int32))) (thI T q_r_1 (k := 86) rfl : Rg (-2147483648) (2147483647) ((hI h r_1 (1 : Int32).toNatClampNeg)))
      exact s_some ⟨⟨(T), (rg_m (rg_b rfl : Rg (2) (2) ((2 : Int32))) (by decide))⟩, (fun q => absurd q (show ¬ (((2 : Int32)).toInt = 0) from (by have : ((2 : Int32)).toInt = 2 := rfl; clear o_x1; omega)))⟩
    · have _ := c_4
      have i_f_6 : Rg (-2147483648) (1) ((hI h r_1 (1 : Int32).toNatClampNeg)) := rg_le1 (nlt_le c_4) (thI T q_r_1 (k := 86) rfl : Rg (-2147483648) (2147483647) ((hI h r_1 (1 : Int32).toNatClampNeg))) (rg_b rfl : Rg (1) (1) ((1 : Int32)))
      refine s_br (fun c_7 => ?_) (fun c_7 => ?_)
      · have _ := c_7
        have i_f_8 : Rg (0) (0) (t0) := rg_eq c_7 (rg_b rfl : Rg (0) (0) (0 : Int32))
        obtain ⟨r_8, e_r_8, q_r_8⟩ := thR T r_x0 (k := 16) (i := 4) (k2 := 15) rfl (by decide)
        refine s_ref e_r_8 ?_
        refine s_br (fun c_9 => ?_) (fun c_9 => ?_)
        · have _ := c_9
          have i_f_10 : Rg (0) (0) ((hI h r_8 18)) := rg_eq c_9 (rg_b rfl : Rg (0) (0) (0 : Int32))
          refine s_br (fun c_11 => ?_) (fun c_11 => ?_)
          · have _ := c_11
            have i_f_12 : Rg (0) (0) (x2) := rg_eq c_11 (rg_b rfl : Rg (0) (0) (0 : Int32))
            have m_13 : Rg (0) (64) ((0 : Int32)) := (rg_m (rg_b rfl : Rg (0) (0) ((0 : Int32))) (by decide))
            exact zX15_wrongOf_242 hF (pmA_s hA rfl) F o_x1 T r_x0 r_x1 (rg_m (rg_b rfl : Rg (0) (0) ((0 : Int32))) (by decide)) (by have := m_13.1; have := m_13.2; omega)
          · have _ := c_11
            have i_f_14 : Rg (1) (1) (x2) := rg_nlo c_11 i_x2 (rg_b rfl : Rg (0) (0) (0 : Int32))
            exact s_some ⟨⟨(T), (rg_m (rg_b rfl : Rg (3) (3) ((3 : Int32))) (by decide))⟩, (fun q => absurd q (show ¬ (((3 : Int32)).toInt = 0) from (by have : ((3 : Int32)).toInt = 3 := rfl; clear o_x1; omega)))⟩
        · have _ := c_9
          have i_f_15 : Rg (1) (1) ((hI h r_8 18)) := rg_nlo c_9 (thI T q_r_8 (k := 15) (i := 18) rfl : Rg (0) (1) ((hI h r_8 18))) (rg_b rfl : Rg (0) (0) (0 : Int32))
          refine s_ref e_r_8 ?_
          refine s_br (fun c_16 => ?_) (fun c_16 => ?_)
          · have _ := c_16
            have i_f_17 : Rg (-1) (-1) ((hI h r_8 10)) := rg_eq c_16 (rg_b rfl : Rg (-1) (-1) ((- 1 : Int32)))
            refine s_br (fun c_18 => ?_) (fun c_18 => ?_)
            · have _ := c_18
              have i_f_19 : Rg (0) (0) (x2) := rg_eq c_18 (rg_b rfl : Rg (0) (0) (0 : Int32))
              have m_20 : Rg (0) (64) ((0 : Int32)) := (rg_m (rg_b rfl : Rg (0) (0) ((0 : Int32))) (by decide))
              exact zX15_wrongOf_242 hF (pmA_s hA rfl) F o_x1 T r_x0 r_x1 (rg_m (rg_b rfl : Rg (0) (0) ((0 : Int32))) (by decide)) (by have := m_20.1; have := m_20.2; omega)
            · have _ := c_18
              have i_f_21 : Rg (1) (1) (x2) := rg_nlo c_18 i_x2 (rg_b rfl : Rg (0) (0) (0 : Int32))
              exact s_some ⟨⟨(T), (rg_m (rg_b rfl : Rg (3) (3) ((3 : Int32))) (by decide))⟩, (fun q => absurd q (show ¬ (((3 : Int32)).toInt = 0) from (by have : ((3 : Int32)).toInt = 3 := rfl; clear o_x1; omega)))⟩
          · have _ := c_16
            have i_f_22 : Rg (0) (11) ((hI h r_8 10)) := rg_nlo c_16 (thI T q_r_8 (k := 15) (i := 10) rfl : Rg (-1) (11) ((hI h r_8 10))) (rg_b rfl : Rg (-1) (-1) ((- 1 : Int32)))
            refine s_ref e_r_1 ?_
            refine s_gd (by rw [thN T q_r_1 (k := 86) (n := 2) rfl (by decide)]; exact rg_inB ((rg_m (rg_b rfl : Rg (0) (0) ((0 : Int32))) (by decide)) : Rg (0) (1) ((0 : Int32))) (by decide)) ?_
            refine s_br (fun c_23 => ?_) (fun c_23 => ?_)
            · have _ := c_23
              have i_f_24 : Rg (1) (1) ((hI h r_1 (0 : Int32).toNatClampNeg)) := rg_eq c_23 (rg_b rfl : Rg (1) (1) ((1 : Int32)))
              refine s_ref e_r_1 ?_
              refine s_gd (by rw [thN T q_r_1 (k := 86) (n := 2) rfl (by decide)]; exact rg_inB ((rg_m (rg_b rfl : Rg (1) (1) ((1 : Int32))) (by decide)) : Rg (0) (1) ((1 : Int32))) (by decide)) ?_
              refine s_br (fun c_25 => ?_) (fun c_25 => ?_)
              · have _ := c_25
                have i_f_26 : Rg (1) (1) ((hI h r_1 (1 : Int32).toNatClampNeg)) := rg_eq c_25 (rg_b rfl : Rg (1) (1) ((1 : Int32)))
                refine s_br (fun c_27 => ?_) (fun c_27 => ?_)
                · have _ := c_27
                  have i_f_28 : Rg (0) (0) (x2) := rg_eq c_27 (rg_b rfl : Rg (0) (0) (0 : Int32))
                  have m_29 : Rg (0) (64) ((0 : Int32)) := (rg_m (rg_b rfl : Rg (0) (0) ((0 : Int32))) (by decide))
                  exact zX15_wrongOf_242 hF (pmA_s hA rfl) F o_x1 T r_x0 r_x1 (rg_m (rg_b rfl : Rg (0) (0) ((0 : Int32))) (by decide)) (by have := m_29.1; have := m_29.2; omega)
                · have _ := c_27
                  have i_f_30 : Rg (1) (1) (x2) := rg_nlo c_27 i_x2 (rg_b rfl : Rg (0) (0) (0 : Int32))
                  exact s_some ⟨⟨(T), (rg_m (rg_b rfl : Rg (3) (3) ((3 : Int32))) (by decide))⟩, (fun q => absurd q (show ¬ (((3 : Int32)).toInt = 0) from (by have : ((3 : Int32)).toInt = 3 := rfl; clear o_x1; omega)))⟩
              · have _ := c_25
                have i_f_31 : Rg (-2147483648) (0) ((hI h r_1 (1 : Int32).toNatClampNeg)) := rg_nhi c_25 i_f_6 (rg_b rfl : Rg (1) (1) ((1 : Int32)))
                exact s_some ⟨⟨(T), (rg_m (rg_b rfl : Rg (2) (2) ((2 : Int32))) (by decide))⟩, (fun q => absurd q (show ¬ (((2 : Int32)).toInt = 0) from (by have : ((2 : Int32)).toInt = 2 := rfl; clear o_x1; omega)))⟩
            · have _ := c_23
              have i_f_32 : Rg (-2147483648) (0) ((hI h r_1 (0 : Int32).toNatClampNeg)) := rg_nhi c_23 i_f_3 (rg_b rfl : Rg (1) (1) ((1 : Int32)))
              exact s_some ⟨⟨(T), (rg_m (rg_b rfl : Rg (2) (2) ((2 : Int32))) (by decide))⟩, (fun q => absurd q (show ¬ (((2 : Int32)).toInt = 0) from (by have : ((2 : Int32)).toInt = 2 := rfl; clear o_x1; omega)))⟩
      · have _ := c_7
        have i_f_33 : Rg (1) (1) (t0) := rg_nlo c_7 i_t0 (rg_b rfl : Rg (0) (0) (0 : Int32))
        exact s_some ⟨⟨(T), (rg_m (rg_b rfl : Rg (2) (2) ((2 : Int32))) (by decide))⟩, (fun q => absurd q (show ¬ (((2 : Int32)).toInt = 0) from (by have : ((2 : Int32)).toInt = 2 := rfl; clear o_x1; omega)))⟩
set_option maxRecDepth 20000 in
theorem zX15_wrongOf_18 {ρ : Nat → Nat} {c : Cm} {F : Nat} {w_x1 : Nat} (hF : 700000 ≤ F) (hA : pmA c [(86, 999), (16, 23), (16, 24)]) : ∀ (f : Nat) {h : Hp} {x0 : Nat} {x1 : Nat} {x2 : Int32} {x3 : Int32}, cw c x1 = w_x1 → TH ρ c h → ρ x0 = 16 → ρ x1 = 13 → Rg (0) (1) (x2) → Rg (0) (64) (x3) → (64 - x3.toInt).toNat < f → Sat (sX15_wrongOf_18 F f h x0 x1 x2 x3) (ZQ (ZI ρ c (0) (8)) (fun o => (o.1.toInt = 0) → PE x1 o.2)) := by
  intro f
  induction f with
  | zero => intros; omega
  | succ f ih =>
    intro h x0 x1 x2 x3 o_x1 T r_x0 r_x1 i_x2 i_x3 hm
    rw [sX15_wrongOf_18]
    unfold sX15_wrongOf_164 sX15_wrongOf_109 sX15_sideOf sX15_manOf
    obtain ⟨C_18, hC_18⟩ : ∃ C : Int, C = x3.toInt := ⟨_, rfl⟩
    have hk_18 : ∀ {h : Hp} {x0 : Nat} {x1 : Nat} {x2 : Int32} {x3 : Int32}, cw c x1 = w_x1 → TH ρ c h → ρ x0 = 16 → ρ x1 = 13 → Rg (0) (1) (x2) → Rg (0) (64) (x3) → C_18 < x3.toInt → Sat (sX15_wrongOf_18 F f h x0 x1 x2 x3) (ZQ (ZI ρ c (0) (8)) (fun o => (o.1.toInt = 0) → PE x1 o.2)) := by
      intro h' x0' x1' x2' x3' o_x1' T' r_x0' r_x1' i_x2' i_x3' hl
      exact ih o_x1' T' r_x0' r_x1' i_x2' i_x3' (by have := i_x3'.1; have := i_x3'.2; omega)
    have hc_18 : C_18 ≤ x3.toInt := by omega
    refine s_br (fun c_1 => ?_) (fun c_1 => ?_)
    · have _ := c_1
      have i_f_2 : Rg (9) (64) (x3) := rg_le2 c_1 (thI T r_x0 (k := 16) (i := 13) rfl : Rg (9) (64) ((hI h x0 13))) i_x3
      obtain ⟨r_2, e_r_2, q_r_2⟩ := thR T r_x0 (k := 16) (i := 4) (k2 := 15) rfl (by decide)
      refine s_ref e_r_2 ?_
      refine s_br (fun c_3 => ?_) (fun c_3 => ?_)
      · have _ := c_3
        have i_f_4 : Rg (-1) (-1) ((hI h r_2 10)) := rg_eq c_3 (rg_b rfl : Rg (-1) (-1) ((- 1 : Int32)))
        exact zX15_wrongOf_165 hF (pmA_s hA rfl) o_x1 T r_x0 r_x1 i_x2 (rg_m (rg_b rfl : Rg (0) (0) ((0 : Int32))) (by decide))
      · have _ := c_3
        have i_f_5 : Rg (0) (11) ((hI h r_2 10)) := rg_nlo c_3 (thI T q_r_2 (k := 15) (i := 10) rfl : Rg (-1) (11) ((hI h r_2 10))) (rg_b rfl : Rg (-1) (-1) ((- 1 : Int32)))
        obtain ⟨r_4, e_r_4, q_r_4⟩ := thR T r_x1 (k := 13) (i := 5) (k2 := 64) rfl (by decide)
        refine s_ref e_r_4 ?_
        refine s_ref e_r_2 ?_
        refine s_gd (by rw [thN T q_r_4 (k := 64) (n := 24) rfl (by decide)]; exact rg_inB ((rg_m (rg_mulc' (rg_b rfl : Rg (2) (2) ((2 : Int32))) i_f_5 (by decide) : Rg (0) (22) (((2 : Int32) * (hI h r_2 10)))) (by decide)) : Rg (0) (23) (((2 : Int32) * (hI h r_2 10)))) (by decide)) ?_
        refine s_ref e_r_4 ?_
        refine s_ref e_r_2 ?_
        refine s_gd (by rw [thN T q_r_4 (k := 64) (n := 24) rfl (by decide)]; exact rg_inB ((rg_m (rg_add (rg_mulc' (rg_b rfl : Rg (2) (2) ((2 : Int32))) i_f_5 (by decide) : Rg (0) (22) (((2 : Int32) * (hI h r_2 10)))) (rg_b rfl : Rg (1) (1) ((1 : Int32))) (by decide) : Rg (1) (23) ((((2 : Int32) * (hI h r_2 10)) + (1 : Int32)))) (by decide)) : Rg (0) (23) ((((2 : Int32) * (hI h r_2 10)) + (1 : Int32)))) (by decide)) ?_
        refine s_br (fun c_6 => ?_) (fun c_6 => ?_)
        · have _ := c_6
          have i_f_7 : Rg (0) (0) (((hI h r_4 ((2 : Int32) * (hI h r_2 10)).toNatClampNeg) + (hI h r_4 (((2 : Int32) * (hI h r_2 10)) + (1 : Int32)).toNatClampNeg))) := rg_le1 c_6 (rg_add (thI T q_r_4 (k := 64) rfl : Rg (0) (16) ((hI h r_4 ((2 : Int32) * (hI h r_2 10)).toNatClampNeg))) (thI T q_r_4 (k := 64) rfl : Rg (0) (16) ((hI h r_4 (((2 : Int32) * (hI h r_2 10)) + (1 : Int32)).toNatClampNeg))) (by decide) : Rg (0) (32) (((hI h r_4 ((2 : Int32) * (hI h r_2 10)).toNatClampNeg) + (hI h r_4 (((2 : Int32) * (hI h r_2 10)) + (1 : Int32)).toNatClampNeg)))) (rg_b rfl : Rg (0) (0) (0 : Int32))
          exact zX15_wrongOf_165 hF (pmA_s hA rfl) o_x1 T r_x0 r_x1 i_x2 (rg_m (rg_b rfl : Rg (0) (0) ((0 : Int32))) (by decide))
        · have _ := c_6
          have i_f_8 : Rg (1) (32) (((hI h r_4 ((2 : Int32) * (hI h r_2 10)).toNatClampNeg) + (hI h r_4 (((2 : Int32) * (hI h r_2 10)) + (1 : Int32)).toNatClampNeg))) := rg_lt2 (nle_lt c_6) (rg_b rfl : Rg (0) (0) (0 : Int32)) (rg_add (thI T q_r_4 (k := 64) rfl : Rg (0) (16) ((hI h r_4 ((2 : Int32) * (hI h r_2 10)).toNatClampNeg))) (thI T q_r_4 (k := 64) rfl : Rg (0) (16) ((hI h r_4 (((2 : Int32) * (hI h r_2 10)) + (1 : Int32)).toNatClampNeg))) (by decide) : Rg (0) (32) (((hI h r_4 ((2 : Int32) * (hI h r_2 10)).toNatClampNeg) + (hI h r_4 (((2 : Int32) * (hI h r_2 10)) + (1 : Int32)).toNatClampNeg))))
          exact zX15_wrongOf_165 hF (pmA_s hA rfl) o_x1 T r_x0 r_x1 i_x2 (rg_m (rg_b rfl : Rg (1) (1) ((1 : Int32))) (by decide))
    · have _ := c_1
      have i_f_9 : Rg (0) (63) (x3) := rg_lt1 (nle_lt c_1) i_x3 (thI T r_x0 (k := 16) (i := 13) rfl : Rg (9) (64) ((hI h x0 13)))
      obtain ⟨r_11, e_r_11, q_r_11⟩ := thR T r_x1 (k := 13) (i := 0) (k2 := 62) rfl (by decide)
      refine s_ref e_r_11 ?_
      refine s_gd (by rw [thN T q_r_11 (k := 62) (n := 64) rfl (by decide)]; exact rg_inB (i_f_9 : Rg (0) (63) (x3)) (by decide)) ?_
      refine s_q (fun v_13 e_10 => ?_)
      have i_v_13 : Rg (0) (24) (v_13) := by rw [e_10]; exact (thI T q_r_11 (k := 62) rfl : Rg (0) (24) (hI h r_11 x3.toNatClampNeg))
      refine s_br (fun c_11 => ?_) (fun c_11 => ?_)
      · have _ := c_11
        have i_f_12 : Rg (0) (0) (v_13) := rg_le1 c_11 i_v_13 (rg_b rfl : Rg (0) (0) (0 : Int32))
        refine s_q (fun v_1q3 e_13 => ?_)
        have i_v_1q3 : Rg (1) (64) (v_1q3) := by rw [e_13]; exact (rg_add i_f_9 (rg_b rfl : Rg (1) (1) ((1 : Int32))) (by decide) : Rg (1) (64) (x3 + (1 : Int32)))
        have m_14 : (v_1q3).toInt = x3.toInt + 1 := by rw [e_13]; exact rg_inc i_f_9 (by decide)
        exact hk_18 o_x1 T r_x0 r_x1 i_x2 (rg_m i_v_1q3 (by decide)) (by have := hc_18; omega)
      · have _ := c_11
        have i_f_15 : Rg (1) (24) (v_13) := rg_lt2 (nle_lt c_11) (rg_b rfl : Rg (0) (0) (0 : Int32)) i_v_13
        obtain ⟨r_15, e_r_15, q_r_15⟩ := thR T r_x0 (k := 16) (i := 22) (k2 := 86) rfl (by decide)
        refine s_ref e_r_15 ?_
        refine s_pu (fun o_16z e_16 => ?_)
        try dsimp only
        have i_o_16z : Rg (0) (1) (o_16z) := by rw [e_16]; exact (rg_and (rg_b rfl : Rg (1) (1) ((1 : Int32))) (by decide) : Rg (0) (1) ((v_13 - (1 : Int32)) &&& (1 : Int32)))
        refine s_gd (by rw [thN T q_r_15 (k := 86) (n := 2) rfl (by decide)]; exact rg_inB (i_o_16z : Rg (0) (1) (o_16z)) (by decide)) ?_
        refine s_pu (fun o_18z e_17 => ?_)
        try dsimp only
        have i_o_18z : Rg (0) (11) (o_18z) := by rw [e_17]; exact (rg_shrk 1 (by decide) (rg_sub i_f_15 (rg_b rfl : Rg (1) (1) ((1 : Int32))) (by decide) : Rg (0) (23) ((v_13 - (1 : Int32)))) (by decide) : Rg (0) (11) ((v_13 - (1 : Int32)) >>> ((1 : Int32) &&& 31)))
        obtain ⟨r_19, e_r_19, q_r_19⟩ := thR T r_x0 (k := 16) (i := 4) (k2 := 15) rfl (by decide)
        refine s_ref e_r_19 ?_
        refine s_br (fun c_18 => ?_) (fun c_18 => ?_)
        · have _ := c_18
          have i_f_19 : Rg (0) (11) ((hI h r_19 10)) := rg_eq c_18.symm i_o_18z
          exact zX15_wrongOf_70 hF @hk_18 (pmA_s hA rfl) o_x1 T r_x0 r_x1 i_x2 i_f_9 i_f_15 (rg_m (rg_b rfl : Rg (1) (1) ((1 : Int32))) (by decide)) (thI T q_r_15 (k := 86) rfl : Rg (-2147483648) (2147483647) ((hI h r_15 o_16z.toNatClampNeg))) i_o_16z q_r_15 hc_18
        · have _ := c_18
          exact zX15_wrongOf_70 hF @hk_18 (pmA_s hA rfl) o_x1 T r_x0 r_x1 i_x2 i_f_9 i_f_15 (rg_m (rg_b rfl : Rg (0) (0) ((0 : Int32))) (by decide)) (thI T q_r_15 (k := 86) rfl : Rg (-2147483648) (2147483647) ((hI h r_15 o_16z.toNatClampNeg))) i_o_16z q_r_15 hc_18
set_option maxRecDepth 20000 in
theorem zX15_wrongOf {ρ : Nat → Nat} {c : Cm} {F : Nat} {w_x1 : Nat} (hF : 700000 ≤ F) (hA : pmA c [(86, 999), (16, 23), (16, 24)]) {h : Hp} {x0 : Nat} {x1 : Nat} (o_x1 : cw c x1 = w_x1) (T : TH ρ c h) (r_x0 : ρ x0 = 16) (r_x1 : ρ x1 = 13) : Sat (sX15_wrongOf F h x0 x1) (ZQ (ZI ρ c (0) (8)) (fun o => (o.1.toInt = 0) → PE x1 o.2)) := by
  unfold sX15_wrongOf 
  obtain ⟨r_1, e_r_1, q_r_1⟩ := thR T r_x0 (k := 16) (i := 22) (k2 := 86) rfl (by decide)
  refine s_ref e_r_1 ?_
  refine s_gd (by rw [thN T q_r_1 (k := 86) (n := 2) rfl (by decide)]; exact rg_inB ((rg_m (rg_b rfl : Rg (0) (0) ((0 : Int32))) (by decide)) : Rg (0) (1) ((0 : Int32))) (by decide)) ?_
  refine s_hq (th_wI T q_r_1 (k := 86) (lo := (-2147483648)) (hi := (2147483647)) rfl ((rg_m (rg_b rfl : Rg (0) (0) ((0 : Int32))) (by decide)) : Rg (-2147483648) (2147483647) ((0 : Int32))) (by decide) (by decide) (pm_a hA rfl)) (fun h_3 T_1 w_2 => ?_)
  refine s_ref (hr_w w_2 e_r_1) ?_
  refine s_gd (by rw [thN T_1 q_r_1 (k := 86) (n := 2) rfl (by decide)]; exact rg_inB ((rg_m (rg_b rfl : Rg (1) (1) ((1 : Int32))) (by decide)) : Rg (0) (1) ((1 : Int32))) (by decide)) ?_
  refine s_hq (th_wI T_1 q_r_1 (k := 86) (lo := (-2147483648)) (hi := (2147483647)) rfl ((rg_m (rg_b rfl : Rg (0) (0) ((0 : Int32))) (by decide)) : Rg (-2147483648) (2147483647) ((0 : Int32))) (by decide) (by decide) (pm_a hA rfl)) (fun h_6 T_3 w_4 => ?_)
  have m_5 : Rg (0) (64) ((0 : Int32)) := (rg_m (rg_b rfl : Rg (0) (0) ((0 : Int32))) (by decide))
  exact zX15_wrongOf_18 hF (pmA_s hA rfl) F o_x1 T_3 r_x0 r_x1 (rg_m (rg_b rfl : Rg (0) (0) ((0 : Int32))) (by decide)) (rg_m (rg_b rfl : Rg (0) (0) ((0 : Int32))) (by decide)) (by have := m_5.1; have := m_5.2; omega)
set_option maxRecDepth 20000 in
theorem zX15_leadsTo_73 {ρ : Nat → Nat} {c : Cm} {F : Nat} {w_x1 : Nat} (hF : 700000 ≤ F) {k_27 : Hp → Nat → Nat → Int32 → Option (Int32 × Hp)} {C_27 : Int} (hk_27 : ∀ {h : Hp} {x0 : Nat} {x1 : Nat} {x2 : Int32}, cw c x1 = w_x1 → TH ρ c h → ρ x0 = 16 → ρ x1 = 13 → Rg (0) (3000) (x2) → (SqOk x0 h) → (MvF 45 30 x0 h) → C_27 < x2.toInt → Sat (k_27 h x0 x1 x2) (ZI ρ c (0) (1))) : ∀ (f : Nat) {h : Hp} {x0 : Nat} {x1 : Nat} {x2 : Int32} {x3 : Int32} {x4 : Int32}, cw c x1 = w_x1 → TH ρ c h → ρ x0 = 16 → ρ x1 = 13 → Rg (0) (2999) (x2) → Rg (0) (1) (x3) → Rg (0) (64) (x4) → C_27 ≤ x2.toInt → (SqOk x0 h) → (MvF 45 30 x0 h) → (64 - x4.toInt).toNat < f → Sat (sX15_leadsTo_73 F k_27 f h x0 x1 x2 x3 x4) (ZI ρ c (0) (1)) := by
  intro f
  induction f with
  | zero => intros; omega
  | succ f ih =>
    intro h x0 x1 x2 x3 x4 o_x1 T r_x0 r_x1 i_x2 i_x3 i_x4 hc_27 sq mf hm
    rw [sX15_leadsTo_73]
    unfold sX15_leadsTo_118 sX15_leadsTo_124 sX15_leadsTo_111
    obtain ⟨C_73, hC_73⟩ : ∃ C : Int, C = x4.toInt := ⟨_, rfl⟩
    have hk_73 : ∀ {h : Hp} {x0 : Nat} {x1 : Nat} {x2 : Int32} {x3 : Int32} {x4 : Int32}, cw c x1 = w_x1 → TH ρ c h → ρ x0 = 16 → ρ x1 = 13 → Rg (0) (2999) (x2) → Rg (0) (1) (x3) → Rg (0) (64) (x4) → C_27 ≤ x2.toInt → (SqOk x0 h) → (MvF 45 30 x0 h) → C_73 < x4.toInt → Sat (sX15_leadsTo_73 F k_27 f h x0 x1 x2 x3 x4) (ZI ρ c (0) (1)) := by
      intro h' x0' x1' x2' x3' x4' o_x1' T' r_x0' r_x1' i_x2' i_x3' i_x4' hc_27' sq' mf' hl
      exact ih o_x1' T' r_x0' r_x1' i_x2' i_x3' i_x4' hc_27' sq' mf' (by have := i_x4'.1; have := i_x4'.2; omega)
    have hc_73 : C_73 ≤ x4.toInt := by omega
    refine s_br (fun c_1 => ?_) (fun c_1 => ?_)
    · have _ := c_1
      have i_f_2 : Rg (9) (64) (x4) := rg_le2 c_1 (thI T r_x0 (k := 16) (i := 13) rfl : Rg (9) (64) ((hI h x0 13))) i_x4
      refine s_br (fun c_3 => ?_) (fun c_3 => ?_)
      · have _ := c_3
        have i_f_4 : Rg (0) (0) (x3) := rg_eq c_3 (rg_b rfl : Rg (0) (0) (0 : Int32))
        refine s_q (fun v_1q2 e_5 => ?_)
        have i_v_1q2 : Rg (1) (3000) (v_1q2) := by rw [e_5]; exact (rg_add i_x2 (rg_b rfl : Rg (1) (1) ((1 : Int32))) (by decide) : Rg (1) (3000) (x2 + (1 : Int32)))
        have m_6 : (v_1q2).toInt = x2.toInt + 1 := by rw [e_5]; exact rg_inc i_x2 (by decide)
        exact hk_27 o_x1 T r_x0 r_x1 (rg_m i_v_1q2 (by decide)) sq mf (by have := hc_27; omega)
      · have _ := c_3
        have i_f_7 : Rg (1) (1) (x3) := rg_nlo c_3 i_x3 (rg_b rfl : Rg (0) (0) (0 : Int32))
        exact s_some ⟨(T), (rg_m (rg_b rfl : Rg (1) (1) ((1 : Int32))) (by decide))⟩
    · have _ := c_1
      have i_f_8 : Rg (0) (63) (x4) := rg_lt1 (nle_lt c_1) i_x4 (thI T r_x0 (k := 16) (i := 13) rfl : Rg (9) (64) ((hI h x0 13)))
      refine s_br (fun c_9 => ?_) (fun c_9 => ?_)
      · have _ := c_9
        have i_f_10 : Rg (0) (0) (x3) := rg_eq c_9 (rg_b rfl : Rg (0) (0) (0 : Int32))
        refine s_br (fun c_11 => ?_) (fun c_11 => ?_)
        · have _ := c_11
          refine s_q (fun v_1q4 e_12 => ?_)
          have i_v_1q4 : Rg (1) (3000) (v_1q4) := by rw [e_12]; exact (rg_add i_x2 (rg_b rfl : Rg (1) (1) ((1 : Int32))) (by decide) : Rg (1) (3000) (x2 + (1 : Int32)))
          have m_13 : (v_1q4).toInt = x2.toInt + 1 := by rw [e_12]; exact rg_inc i_x2 (by decide)
          exact hk_27 o_x1 T r_x0 r_x1 (rg_m i_v_1q4 (by decide)) sq mf (by have := hc_27; omega)
        · have _ := c_11
          exact (rc_ne c_11 i_f_10 (rg_b rfl : Rg (0) (0) (0 : Int32))).elim
      · have _ := c_9
        have i_f_14 : Rg (1) (1) (x3) := rg_nlo c_9 i_x3 (rg_b rfl : Rg (0) (0) (0 : Int32))
        obtain ⟨r_3, e_r_3, q_r_3⟩ := thR T r_x0 (k := 16) (i := 32) (k2 := 13) rfl (by decide)
        refine s_ref e_r_3 ?_
        obtain ⟨r_4, e_r_4, q_r_4⟩ := thR T q_r_3 (k := 13) (i := 0) (k2 := 62) rfl (by decide)
        refine s_ref e_r_4 ?_
        refine s_gd (by rw [thN T q_r_4 (k := 62) (n := 64) rfl (by decide)]; exact rg_inB (i_f_8 : Rg (0) (63) (x4)) (by decide)) ?_
        obtain ⟨r_6, e_r_6, q_r_6⟩ := thR T r_x1 (k := 13) (i := 0) (k2 := 62) rfl (by decide)
        refine s_ref e_r_6 ?_
        refine s_gd (by rw [thN T q_r_6 (k := 62) (n := 64) rfl (by decide)]; exact rg_inB (i_f_8 : Rg (0) (63) (x4)) (by decide)) ?_
        refine s_br (fun c_15 => ?_) (fun c_15 => ?_)
        · have _ := c_15
          refine s_q (fun v_1q5 e_16 => ?_)
          have i_v_1q5 : Rg (1) (64) (v_1q5) := by rw [e_16]; exact (rg_add i_f_8 (rg_b rfl : Rg (1) (1) ((1 : Int32))) (by decide) : Rg (1) (64) (x4 + (1 : Int32)))
          have m_17 : (v_1q5).toInt = x4.toInt + 1 := by rw [e_16]; exact rg_inc i_f_8 (by decide)
          exact hk_73 o_x1 T r_x0 r_x1 i_x2 (rg_m (rg_b rfl : Rg (1) (1) ((1 : Int32))) (by decide)) (rg_m i_v_1q5 (by decide)) hc_27 sq mf (by have := hc_73; omega)
        · have _ := c_15
          refine s_q (fun v_1q6 e_18 => ?_)
          have i_v_1q6 : Rg (1) (64) (v_1q6) := by rw [e_18]; exact (rg_add i_f_8 (rg_b rfl : Rg (1) (1) ((1 : Int32))) (by decide) : Rg (1) (64) (x4 + (1 : Int32)))
          have m_19 : (v_1q6).toInt = x4.toInt + 1 := by rw [e_18]; exact rg_inc i_f_8 (by decide)
          exact hk_73 o_x1 T r_x0 r_x1 i_x2 (rg_m (rg_b rfl : Rg (0) (0) ((0 : Int32))) (by decide)) (rg_m i_v_1q6 (by decide)) hc_27 sq mf (by have := hc_73; omega)
set_option maxRecDepth 20000 in
theorem zX15_leadsTo_27 {ρ : Nat → Nat} {c : Cm} {F : Nat} {w_x1 : Nat} (hF : 700000 ≤ F) (hA : pmA c [(16, 23), (16, 24)]) (hi_2532 : pmO c 2532 [(62, 999), (63, 999), (64, 999), (65, 999), (13, 1), (13, 2), (13, 3), (13, 7)]) : ∀ (f : Nat) {h : Hp} {x0 : Nat} {x1 : Nat} {x2 : Int32}, cw c x1 = w_x1 → TH ρ c h → ρ x0 = 16 → ρ x1 = 13 → Rg (0) (3000) (x2) → (SqOk x0 h) → (MvF 45 30 x0 h) → (3000 - x2.toInt).toNat < f → Sat (sX15_leadsTo_27 F f h x0 x1 x2) (ZI ρ c (0) (1)) := by
  intro f
  induction f with
  | zero => intros; omega
  | succ f ih =>
    intro h x0 x1 x2 o_x1 T r_x0 r_x1 i_x2 sq mf hm
    rw [sX15_leadsTo_27]
    unfold sX15_leadsTo_124
    obtain ⟨C_27, hC_27⟩ : ∃ C : Int, C = x2.toInt := ⟨_, rfl⟩
    have hk_27 : ∀ {h : Hp} {x0 : Nat} {x1 : Nat} {x2 : Int32}, cw c x1 = w_x1 → TH ρ c h → ρ x0 = 16 → ρ x1 = 13 → Rg (0) (3000) (x2) → (SqOk x0 h) → (MvF 45 30 x0 h) → C_27 < x2.toInt → Sat (sX15_leadsTo_27 F f h x0 x1 x2) (ZI ρ c (0) (1)) := by
      intro h' x0' x1' x2' o_x1' T' r_x0' r_x1' i_x2' sq' mf' hl
      exact ih o_x1' T' r_x0' r_x1' i_x2' sq' mf' (by have := i_x2'.1; have := i_x2'.2; omega)
    have hc_27 : C_27 ≤ x2.toInt := by omega
    obtain ⟨r_1, e_r_1, q_r_1⟩ := thR T r_x0 (k := 16) (i := 30) (k2 := 14) rfl (by decide)
    refine s_ref e_r_1 ?_
    refine s_br (fun c_1 => ?_) (fun c_1 => ?_)
    · have _ := c_1
      exact s_some ⟨(T), (rg_m (rg_b rfl : Rg (0) (0) ((0 : Int32))) (by decide))⟩
    · have _ := c_1
      have i_f_2 : Rg (0) (2999) (x2) := rg_lt1 (nle_lt c_1) i_x2 (thI T q_r_1 (k := 14) (i := 0) rfl : Rg (0) (3000) ((hI h r_1 0)))
      have i_f_3 : Rg (1) (3000) ((hI h r_1 0)) := rg_lt2 (nle_lt c_1) i_x2 (thI T q_r_1 (k := 14) (i := 0) rfl : Rg (0) (3000) ((hI h r_1 0)))
      refine s_ref e_r_1 ?_
      obtain ⟨r_4, e_r_4, q_r_4⟩ := thR T q_r_1 (k := 14) (i := 6) (k2 := 71) rfl (by decide)
      refine s_ref e_r_4 ?_
      refine s_gd (by rw [thN T q_r_4 (k := 71) (n := 3000) rfl (by decide)]; exact rg_inB (i_f_2 : Rg (0) (2999) (x2)) (by decide)) ?_
      refine s_br (fun c_4 => ?_) (fun c_4 => ?_)
      · have _ := c_4
        have i_f_5 : Rg (2) (3) ((hI h r_4 x2.toNatClampNeg)) := rg_le2 c_4 (rg_b rfl : Rg (2) (2) ((2 : Int32))) (thI T q_r_4 (k := 71) rfl : Rg (0) (3) ((hI h r_4 x2.toNatClampNeg)))
        refine s_q (fun v_1q1 e_6 => ?_)
        have i_v_1q1 : Rg (1) (3000) (v_1q1) := by rw [e_6]; exact (rg_add i_f_2 (rg_b rfl : Rg (1) (1) ((1 : Int32))) (by decide) : Rg (1) (3000) (x2 + (1 : Int32)))
        have m_7 : (v_1q1).toInt = x2.toInt + 1 := by rw [e_6]; exact rg_inc i_f_2 (by decide)
        exact hk_27 o_x1 T r_x0 r_x1 (rg_m i_v_1q1 (by decide)) sq mf (by have := hc_27; omega)
      · have _ := c_4
        have i_f_8 : Rg (0) (1) ((hI h r_4 x2.toNatClampNeg)) := rg_lt1 (nle_lt c_4) (thI T q_r_4 (k := 71) rfl : Rg (0) (3) ((hI h r_4 x2.toNatClampNeg))) (rg_b rfl : Rg (2) (2) ((2 : Int32)))
        obtain ⟨r_7, e_r_7, q_r_7⟩ := thR T r_x0 (k := 16) (i := 45) (k2 := 13) rfl (by decide)
        refine s_ref e_r_7 ?_
        refine s_ref e_r_1 ?_
        obtain ⟨r_9, e_r_9, q_r_9⟩ := thR T r_x0 (k := 16) (i := 32) (k2 := 13) rfl (by decide)
        refine s_ref e_r_9 ?_
        refine s_cVfq (S := fS [(16, 23), (16, 24)] [(2532, [(62, 999), (63, 999), (64, 999), (65, 999), (13, 1), (13, 2), (13, 3), (13, 7)])]) T (fs_sub (pmA_s hA rfl) (fs_c (pmO_s hi_2532 rfl) fs_n)) (zX15_make hF fs_a (fs_o (.head _)) (th_id T r_x0 (k := 16) (i := 45) (w := 2545) e_r_7 rfl (by decide)) (th_id T r_x0 (k := 16) (i := 30) (w := 2530) e_r_1 rfl (by decide)) (th_id T r_x0 (k := 16) (i := 32) (w := 2532) e_r_9 rfl (by decide)) (th_in _ T) r_x0 q_r_7 q_r_1 i_f_2 q_r_9 sq (mf _ _ e_r_7 e_r_1) (show (x2).toInt < (hI h r_1 0).toInt from (by have := (i_f_2 : Rg (0) (2999) (x2)).1; have := (i_f_2 : Rg (0) (2999) (x2)).2; have := (i_f_3 : Rg (1) (3000) ((hI h r_1 0))).1; have := (i_f_3 : Rg (1) (3000) ((hI h r_1 0))).2; have := nle_i c_1; have := nle_i c_4; have : ((2 : Int32)).toInt = 2 := rfl; have := (i_f_8 : Rg (0) (1) ((hI h r_4 x2.toNatClampNeg))).1; have := (i_f_8 : Rg (0) (1) ((hI h r_4 x2.toNatClampNeg))).2; clear o_x1; omega))) (fun o_10 T_9 f_o_10 p_o_10 => ?_)
        have pf_10 : SqOk x0 o_10 := (sq_fr T r_x0 f_o_10 (fun _ => rfl) (fun _ => rfl) (fun _ => rfl) sq)
        have pf_11 : MvF 45 30 x0 o_10 := (mf_fr (i := 45) (j := 30) (wb := 2545) (wl := 2530) rfl rfl rfl rfl (by decide) (by decide) T r_x0 f_o_10 (fun _ => rfl) (fun _ => rfl) (fun _ => rfl) (fun _ => rfl) rfl rfl rfl (fun _ => rfl) (fun _ => rfl) rfl rfl rfl rfl rfl rfl (fun _ => rfl) (fun _ => rfl) (fun _ => rfl) (fun _ => rfl) (fun _ => rfl) mf)
        have m_12 : Rg (0) (64) ((0 : Int32)) := (rg_m (rg_b rfl : Rg (0) (0) ((0 : Int32))) (by decide))
        exact zX15_leadsTo_73 hF @hk_27 F o_x1 T_9 r_x0 r_x1 i_f_2 (rg_m (rg_b rfl : Rg (1) (1) ((1 : Int32))) (by decide)) (rg_m (rg_b rfl : Rg (0) (0) ((0 : Int32))) (by decide)) hc_27 pf_10 pf_11 (by have := m_12.1; have := m_12.2; omega)
set_option maxRecDepth 20000 in
theorem zX15_leadsTo {ρ : Nat → Nat} {c : Cm} {F : Nat} {w_x1 : Nat} (hF : 700000 ≤ F) (hA : pmA c [(86, 999), (87, 999), (88, 999), (89, 999), (16, 23), (16, 24), (16, 29)]) (hi_2528 : pmO c 2528 [(62, 999), (63, 999), (64, 999), (65, 999), (13, 1), (13, 2), (13, 3), (13, 7)]) (hi_2530 : pmO c 2530 [(66, 999), (67, 999), (68, 999), (69, 999), (70, 999), (71, 999), (72, 999), (14, 0)]) (hi_2532 : pmO c 2532 [(62, 999), (63, 999), (64, 999), (65, 999), (13, 1), (13, 2), (13, 3), (13, 7)]) {h : Hp} {x0 : Nat} {x1 : Nat} (o_x1 : cw c x1 = w_x1) (T : TH ρ c h) (r_x0 : ρ x0 = 16) (r_x1 : ρ x1 = 13) (sq : (SqOk x0 h)) : Sat (sX15_leadsTo F h x0 x1) (ZI ρ c (0) (1)) := by
  unfold sX15_leadsTo 
  obtain ⟨r_1, e_r_1, q_r_1⟩ := thR T r_x0 (k := 16) (i := 45) (k2 := 13) rfl (by decide)
  refine s_ref e_r_1 ?_
  refine s_cIfq (S := fS [(86, 999), (16, 23), (16, 24)] []) T (fs_sub (pmA_s hA rfl) fs_n) (zX15_wrongOf hF fs_a (th_id T r_x0 (k := 16) (i := 45) (w := 2545) e_r_1 rfl (by decide)) (th_in _ T) r_x0 q_r_1) (fun o_2 T_1 i_o_2 f_o_2 p_o_2 => ?_)
  refine s_br (fun c_2 => ?_) (fun c_2 => ?_)
  · have _ := c_2
    have i_f_3 : Rg (0) (0) (o_2.1) := rg_le1 c_2 i_o_2 (rg_b rfl : Rg (0) (0) (0 : Int32))
    refine s_ref (hr_q (fr_R f_o_2 r_x0 (by decide) rfl rfl) e_r_1) ?_
    obtain ⟨r_5, e_r_5, q_r_5⟩ := thR T_1 r_x0 (k := 16) (i := 30) (k2 := 14) rfl (by decide)
    refine s_ref e_r_5 ?_
    have pf_4 : SqOk x0 o_2.2 := (sq_fr T r_x0 f_o_2 (fun _ => rfl) (fun _ => rfl) (fun _ => rfl) sq)
    refine s_cVfq (S := fS [(87, 999), (88, 999), (89, 999), (16, 23), (16, 24), (16, 29)] [(2528, [(62, 999), (63, 999), (64, 999), (65, 999), (13, 1), (13, 2), (13, 3), (13, 7)]), (2530, [(66, 999), (67, 999), (68, 999), (69, 999), (70, 999), (71, 999), (72, 999), (14, 0)])]) T_1 (fs_sub (pmA_s hA rfl) (fs_c (pmO_s hi_2528 rfl) (fs_c (pmO_s hi_2530 rfl) fs_n))) (zX15_legal hF fs_a (fs_o (.head _)) (fs_o (.tail _ (.head _))) (th_id T r_x0 (k := 16) (i := 45) (w := 2545) e_r_1 rfl (by decide)) (th_id T_1 r_x0 (k := 16) (i := 30) (w := 2530) e_r_5 rfl (by decide)) (by decide) (th_in _ T_1) r_x0 q_r_1 q_r_5 pf_4 (p_o_2 (show o_2.1.toInt = 0 from (by have := (i_f_3 : Rg (0) (0) (o_2.1)).1; have := (i_f_3 : Rg (0) (0) (o_2.1)).2; have := le_i c_2; have : (0 : Int32).toInt = 0 := rfl; clear o_x1; omega)))) (fun o_6 T_5 f_o_6 p_o_6 => ?_)
    have pf_6 : SqOk x0 o_6 := (sq_fr T_1 r_x0 f_o_6 (fun _ => rfl) (fun _ => rfl) (fun _ => rfl) pf_4)
    have m_7 : Rg (0) (3000) ((0 : Int32)) := (rg_m (rg_b rfl : Rg (0) (0) ((0 : Int32))) (by decide))
    exact zX15_leadsTo_27 hF (pmA_s hA rfl) (pmO_s hi_2532 rfl) F o_x1 T_5 r_x0 r_x1 (rg_m (rg_b rfl : Rg (0) (0) ((0 : Int32))) (by decide)) pf_6 (mf_of (hr_q (fr_R f_o_6 r_x0 (by decide) rfl rfl) (hr_q (fr_R f_o_2 r_x0 (by decide) rfl rfl) e_r_1)) (hr_q (fr_R f_o_6 r_x0 (by decide) rfl rfl) e_r_5) p_o_6) (by have := m_7.1; have := m_7.2; omega)
  · have _ := c_2
    have i_f_8 : Rg (1) (8) (o_2.1) := rg_lt2 (nle_lt c_2) (rg_b rfl : Rg (0) (0) (0 : Int32)) i_o_2
    exact s_some ⟨(T_1), (rg_m (rg_b rfl : Rg (0) (0) ((0 : Int32))) (by decide))⟩
set_option maxRecDepth 20000 in
theorem zX15_mayCome {ρ : Nat → Nat} {c : Cm} {F : Nat} (hF : 700000 ≤ F) (hA : pmA c [(87, 999), (88, 999), (89, 999), (16, 23), (16, 24)]) {h : Hp} {x0 : Nat} {x1 : Int32} {x2 : Int32} (T : TH ρ c h) (r_x0 : ρ x0 = 16) (i_x1 : Rg (0) (63) (x1)) (i_x2 : Rg (0) (63) (x2)) (gs : (GsM x0 x1 h)) : Sat (sX15_mayCome F h x0 x1 x2) (ZI ρ c (0) (1)) := by
  unfold sX15_mayCome sX15_mayCome_25
  obtain ⟨r_1, e_r_1, q_r_1⟩ := thR T r_x0 (k := 16) (i := 45) (k2 := 13) rfl (by decide)
  refine s_ref e_r_1 ?_
  refine s_cV (zX15_lead hF (pmA_s hA rfl) (th_id T r_x0 (k := 16) (i := 45) (w := 2545) e_r_1 rfl (by decide)) T r_x0 q_r_1 i_x1 (rg_m (rg_b rfl : Rg (0) (0) ((0 : Int32))) (by decide)) (fun r hr => ⟨gs _ r e_r_1 hr, (thI T (rr T (thR T q_r_1 (i := 0) (k2 := 62) rfl (by decide)) hr) (k := 62) (lo := 0) (hi := 24) rfl).2⟩)) (fun o_2 T_1 => ?_)
  obtain ⟨r_3, e_r_3, q_r_3⟩ := thR T_1 r_x0 (k := 16) (i := 25) (k2 := 87) rfl (by decide)
  refine s_ref e_r_3 ?_
  refine s_gd (by rw [thN T_1 q_r_3 (k := 87) (n := 64) rfl (by decide)]; exact rg_inB (i_x2 : Rg (0) (63) (x2)) (by decide)) ?_
  refine s_br (fun c_2 => ?_) (fun c_2 => ?_)
  · have _ := c_2
    have i_f_3 : Rg (-1) (-1) ((hI o_2 r_3 x2.toNatClampNeg)) := rg_eq c_2 (rg_b rfl : Rg (-1) (-1) ((- 1 : Int32)))
    refine s_gd (rg_bool (rg_m (rg_b rfl : Rg (0) (0) ((0 : Int32))) (by decide))) ?_
    exact s_some ⟨(T_1), (rg_m (rg_b rfl : Rg (0) (0) ((0 : Int32))) (by decide))⟩
  · have _ := c_2
    have i_f_4 : Rg (0) (95) ((hI o_2 r_3 x2.toNatClampNeg)) := rg_nlo c_2 (thI T_1 q_r_3 (k := 87) rfl : Rg (-1) (95) ((hI o_2 r_3 x2.toNatClampNeg))) (rg_b rfl : Rg (-1) (-1) ((- 1 : Int32)))
    refine s_gd (rg_bool (rg_m (rg_b rfl : Rg (1) (1) ((1 : Int32))) (by decide))) ?_
    exact s_some ⟨(T_1), (rg_m (rg_b rfl : Rg (1) (1) ((1 : Int32))) (by decide))⟩
set_option maxRecDepth 20000 in
theorem zX15_freePlace_2 {ρ : Nat → Nat} {c : Cm} {h0 : Hp} {F : Nat} (hF : 700000 ≤ F) : ∀ (f : Nat) {h : Hp} {x0 : Nat} {x1 : Int32}, h = h0 → TH ρ c h → ρ x0 = 16 → Rg (0) (60) (x1) → (60 - x1.toInt).toNat < f → Sat (sX15_freePlace_2 F f h x0 x1) (ZI0 h0 (-1) (59)) := by
  intro f
  induction f with
  | zero => intros; omega
  | succ f ih =>
    intro h x0 x1 E T r_x0 i_x1 hm
    rw [sX15_freePlace_2]
    obtain ⟨C_2, hC_2⟩ : ∃ C : Int, C = x1.toInt := ⟨_, rfl⟩
    have hk_2 : ∀ {h : Hp} {x0 : Nat} {x1 : Int32}, h = h0 → TH ρ c h → ρ x0 = 16 → Rg (0) (60) (x1) → C_2 < x1.toInt → Sat (sX15_freePlace_2 F f h x0 x1) (ZI0 h0 (-1) (59)) := by
      intro h' x0' x1' E' T' r_x0' i_x1' hl
      exact ih E' T' r_x0' i_x1' (by have := i_x1'.1; have := i_x1'.2; omega)
    have hc_2 : C_2 ≤ x1.toInt := by omega
    refine s_br (fun c_1 => ?_) (fun c_1 => ?_)
    · have _ := c_1
      have i_f_2 : Rg (60) (60) (x1) := rg_le2 c_1 (rg_b rfl : Rg (60) (60) ((60 : Int32))) i_x1
      exact s_some ⟨E, (rg_m (rg_b rfl : Rg (-1) (-1) ((- 1 : Int32))) (by decide))⟩
    · have _ := c_1
      have i_f_3 : Rg (0) (59) (x1) := rg_lt1 (nle_lt c_1) i_x1 (rg_b rfl : Rg (60) (60) ((60 : Int32)))
      obtain ⟨r_2, e_r_2, q_r_2⟩ := thR T r_x0 (k := 16) (i := 15) (k2 := 85) rfl (by decide)
      refine s_ref e_r_2 ?_
      refine s_gd (by rw [thN T q_r_2 (k := 85) (n := 60) rfl (by decide)]; exact rg_inB (i_f_3 : Rg (0) (59) (x1)) (by decide)) ?_
      refine s_br (fun c_4 => ?_) (fun c_4 => ?_)
      · have _ := c_4
        have i_f_5 : Rg (0) (0) ((hI h r_2 x1.toNatClampNeg)) := rg_eq c_4 (rg_b rfl : Rg (0) (0) (0 : Int32))
        exact s_some ⟨E, (rg_m i_f_3 (by decide))⟩
      · have _ := c_4
        refine s_q (fun v_5 e_6 => ?_)
        have i_v_5 : Rg (1) (60) (v_5) := by rw [e_6]; exact (rg_add i_f_3 (rg_b rfl : Rg (1) (1) ((1 : Int32))) (by decide) : Rg (1) (60) (x1 + (1 : Int32)))
        have m_7 : (v_5).toInt = x1.toInt + 1 := by rw [e_6]; exact rg_inc i_f_3 (by decide)
        exact hk_2 E T r_x0 (rg_m i_v_5 (by decide)) (by have := hc_2; omega)
set_option maxRecDepth 20000 in
theorem zX15_freePlace {ρ : Nat → Nat} {c : Cm} {F : Nat} (hF : 700000 ≤ F) {h : Hp} {x0 : Nat} (T : TH ρ c h) (r_x0 : ρ x0 = 16) : Sat (sX15_freePlace F h x0) (ZI0 h (-1) (59)) := by
  unfold sX15_freePlace 
  have m_1 : Rg (0) (60) ((0 : Int32)) := (rg_m (rg_b rfl : Rg (0) (0) ((0 : Int32))) (by decide))
  exact zX15_freePlace_2 hF F rfl T r_x0 (rg_m (rg_b rfl : Rg (0) (0) ((0 : Int32))) (by decide)) (by have := m_1.1; have := m_1.2; omega)
/-- what stays where a board is copied into a place's -/
theorem kp_35 {ρ : Nat → Nat} {c : Cm} {F : Nat} {w_x1 : Nat} (hF : 700000 ≤ F) (hA : pmA c [(84, 999), (85, 999), (16, 16)]) (hi : pmO c 3400 [(62, 999), (63, 999), (64, 999), (65, 999), (13, 1), (13, 2), (13, 3), (13, 7)]) {h : Hp} {x0 x1 r b3 : Nat} {x2 : Int32} (o_x1 : cw c x1 = w_x1) (T : TH ρ c h) (r_x0 : ρ x0 = 16) (r_x1 : ρ x1 = 13) (i2 : Rg 0 59 x2) (er : hR h x0 14 = some r) (eb : hR h r x2.toNatClampNeg = some b3) (bd : BdP x0 h) (pe : PE x1 h) : Sat (sX15_keep_35 F h x0 x1 x2) (fun o => TH ρ c o.2 ∧ Rg (-104) 59 o.1 ∧ BdP x0 o.2) := by
  have qr := rr T (thR T r_x0 (i := 14) (k2 := 84) rfl (by decide)) er
  have rb := thRn T qr (k2 := 13) rfl (by decide) eb
  have wb : cw c b3 = 3400 := th_id T qr eb rfl (by decide)
  unfold sX15_keep_35 sX15_keep_45
  refine s_ref er ?_
  refine s_gd (by rw [thN T qr (k := 84) (n := 60) rfl (by decide)]; exact rg_inB i2 (by decide)) ?_
  refine s_ref eb ?_
  refine s_dd (zX12_copy (F := F) hF hi wb o_x1 T rb r_x1) (fun o4 e4 T4 => ?_)
  refine s_q (fun h5 e5 => ?_)
  have T5 : TH ρ c h5 := by rw [e5]; exact th_wI T4 r_x0 (k := 16) (lo := -2147483648) (hi := 2147483647) rfl (rg_top _) (by decide) (by decide) (pm_a hA rfl)
  obtain ⟨s, es, qs⟩ := thR T5 r_x0 (i := 15) (k2 := 85) rfl (by decide)
  refine s_ref es ?_
  refine s_gd (by rw [thN T5 qs (k := 85) (n := 60) rfl (by decide)]; exact rg_inB i2 (by decide)) ?_
  refine s_q (fun h6 e6 => ?_)
  have T6 : TH ρ c h6 := by rw [e6]; exact th_wI T5 qs (k := 85) (lo := -2147483648) (hi := 2147483647) rfl (rg_top _) (by decide) (by decide) (pm_a hA rfl)
  refine s_some ⟨T6, rg_m i2 (by decide), ?_⟩
  obtain ⟨Mb, eMb, rMb⟩ := thR T r_x1 (i := 0) (k2 := 62) rfl (by decide)
  obtain ⟨Mt, eMt, rMt⟩ := thR T rb (i := 0) (k2 := 62) rfl (by decide)
  obtain ⟨Pb, ePb, rPb⟩ := thR T r_x1 (i := 4) (k2 := 63) rfl (by decide)
  obtain ⟨Pt, ePt, rPt⟩ := thR T rb (i := 4) (k2 := 63) rfl (by decide)
  obtain ⟨Hb, eHb, rHb⟩ := thR T r_x1 (i := 5) (k2 := 64) rfl (by decide)
  obtain ⟨Ht, eHt, rHt⟩ := thR T rb (i := 5) (k2 := 64) rfl (by decide)
  obtain ⟨C, eC, rC⟩ := thR T rb (i := 6) (k2 := 65) rfl (by decide)
  obtain ⟨f1, fM, fH, f3, f4, f5, f6, fo, fa⟩ := cpy_post rb r_x1 rMb rMt rPb rPt rHb rHt rC eMb eMt ePb ePt eHb eHt eC e4
  have pe4 : PE b3 o4 := pe_copy T rb r_x1 pe e4
  have kR : ∀ a i, hR h6 a i = hR h a i := fun a i => by rw [e6, e5]; exact f1 a i
  have kI : ∀ {a k : Nat}, ρ a = k → k ≠ 16 → k ≠ 85 → ∀ i, hI h6 a i = hI o4 a i := fun ha k1 k2 i => by
    rw [e6, r_I, if_neg (fun q => k2 (by rw [← ha, q.1, qs])), e5, r_I, if_neg (fun q => k1 (by rw [← ha, q.1, r_x0]))]
  refine ⟨fun r' s' p1 p2 i hi hs => ?_, fun r' p1 i j a b ne ea eb' k hk M M' m1 m2 => ?_⟩
  · rw [kR] at p1 p2
    have y1 := r_eq er p1
    subst y1
    have es0 : hR h x0 15 = some s := by
      have : hR h5 x0 15 = some s := es
      rw [e5] at this
      have this : hR o4 x0 15 = some s := this
      rw [f1] at this
      exact this
    have y2 := r_eq es0 p2
    subst y2
    by_cases q : i = x2.toNatClampNeg
    · refine ⟨b3, by rw [kR, q]; exact eb, fun M P m1 m2 k k1 k2 => ?_⟩
      rw [kR] at m1 m2
      have rM := rr T (thR T rb (i := 0) (k2 := 62) rfl (by decide)) m1
      have rP := rr T (thR T rb (i := 4) (k2 := 63) rfl (by decide)) m2
      rw [kI rb (by decide) (by decide)] at k2
      rw [kI rP (by decide) (by decide), kI rM (by decide) (by decide)]
      exact pe4 M P (by rw [f1]; exact m1) (by rw [f1]; exact m2) k k1 k2
    · have hs0 : ¬ hI h s' i ≤ 0 := by
        have : hI h6 s' i = hI h s' i := by
          rw [e6, r_I, if_neg (fun w => q w.2), e5, r_I, if_neg (fun w => absurd (w.1 ▸ qs) (by rw [r_x0]; decide)), fo s' i (by rw [qs]; decide)]
        rw [this] at hs
        exact hs
      obtain ⟨b, e1, pb⟩ := bd.1 r' s' er es0 i hi hs0
      have rb' := thRn T qr (k2 := 13) rfl (by decide) e1
      refine ⟨b, by rw [kR]; exact e1, fun M P m1 m2 k k1 k2 => ?_⟩
      rw [kR] at m1 m2
      have rM := rr T (thR T rb' (i := 0) (k2 := 62) rfl (by decide)) m1
      have rP := rr T (thR T rb' (i := 4) (k2 := 63) rfl (by decide)) m2
      have nM : ¬ M = Mt := bd.2 r' er i _ b b3 q e1 eb 0 (Or.inl rfl) M Mt m1 eMt
      have nP : ¬ P = Pt := bd.2 r' er i _ b b3 q e1 eb 4 (Or.inr rfl) P Pt m2 ePt
      have nb : ¬ b = b3 := fun w => by rw [w] at m1; exact nM (r_eq eMt m1)
      have d : ∀ {x y k1 k2 : Nat}, ρ x = k1 → ρ y = k2 → k1 ≠ k2 → ¬ x = y := fun h1 h2 h3 w => h3 (by rw [← h1, ← h2, w])
      rw [kI rb' (by decide) (by decide), fa b 3 nb (d rb' rMt (by decide)) (d rb' rPt (by decide)) (d rb' rHt (by decide)) (d rb' rC (by decide))] at k2
      rw [kI rP (by decide) (by decide), fa P k (d rP rb (by decide)) (d rP rMt (by decide)) nP (d rP rHt (by decide)) (d rP rC (by decide)), kI rM (by decide) (by decide), fa M _ (d rM rb (by decide)) nM (d rM rPt (by decide)) (d rM rHt (by decide)) (d rM rC (by decide))]
      exact pb M P m1 m2 k k1 k2
  · rw [kR] at p1 ea eb' m1 m2
    exact bd.2 r' p1 i j a b ne ea eb' k hk M M' m1 m2
theorem zX15_keep {ρ : Nat → Nat} {c : Cm} {F : Nat} {w_x1 : Nat} (hF : 700000 ≤ F) (hA : pmA c [(84, 999), (85, 999), (16, 16)]) (hi_3400 : pmO c 3400 [(62, 999), (63, 999), (64, 999), (65, 999), (13, 1), (13, 2), (13, 3), (13, 7)]) {h : Hp} {x0 x1 : Nat} (o_x1 : cw c x1 = w_x1) (T : TH ρ c h) (r_x0 : ρ x0 = 16) (r_x1 : ρ x1 = 13) (bd : BdP x0 h) (pe : PE x1 h) : Sat (sX15_keep F h x0 x1) (fun o => ∃ ρ' c', Ext ρ c ρ' c' ∧ TH ρ' c' o.2 ∧ Rg (-104) 59 o.1 ∧ BdP x0 o.2) := by
  unfold sX15_keep sX15_keep_4
  refine s_dI0 (zX15_freePlace hF T r_x0) (fun o e0 e1 i1 => ?_)
  obtain ⟨p, g⟩ := o
  have e1 : g = h := e1
  subst e1
  refine s_br (fun c1 => s_some ⟨ρ, c, ex_0, T, rg_b rfl, bd⟩) (fun c1 => ?_)
  have i2 : Rg 0 59 p := rg_nlo c1 i1 (rg_b rfl)
  obtain ⟨r, er, qr⟩ := thR T r_x0 (i := 14) (k2 := 84) rfl (by decide)
  refine s_ref er ?_
  refine s_gd (by rw [thN T qr (k := 84) (n := 60) rfl (by decide)]; exact rg_inB i2 (by decide)) ?_
  have t1 : g.1 = c.1 := T.1.1
  show Sat (onr (hR g r p.toNatClampNeg) _ _) _
  cases q : hR g r p.toNatClampNeg with
  | none =>
    show Sat (cl (hR g x0 14) _) _
    refine s_ref er ?_
    refine s_q (fun a ea => ?_)
    refine s_q (fun h8 e8 => ?_)
    subst ea
    subst e8
    unfold sX15_keep_30 sX15_keep_34
    refine s_dd (newBoard T 3400) (fun o1 eo1 ho => ?_)
    obtain ⟨ρ1, c1', X1, T1, a1, w1, O1⟩ := ho
    have eo : o1 = boH g := by rw [boH_v] at eo1; exact (Option.some.inj eo1).symm
    have r01 := ex_r X1 r_x0 (by decide)
    have r11 := ex_r X1 r_x1 (by decide)
    have qr1 := ex_r X1 qr (by decide)
    have lt : ∀ x, ρ x ≠ 0 → x < g.1.1 := fun x hx => by rw [t1]; exact T.2.1.2.2.1 x hx
    have rl : ∀ x i y, ρ x ≠ 0 → hR g x i = some y → y < g.1.1 := fun x i y hx hy => by rw [t1]; exact T.2.1.2.2.2 x i y hx hy
    have er1 : hR o1 x0 14 = some r := by rw [(O1 x0 (lt x0 (by rw [r_x0]; decide))).2.2.1]; exact er
    refine s_gd (by rw [thN T1 qr1 (k := 84) (n := 60) rfl (by decide)]; exact rg_inB i2 (by decide)) ?_
    refine s_q (fun h2 e2 => ?_)
    have T2 : TH ρ1 c1' h2 := by
      rw [e2]
      exact th_wRe T1 qr1 (k2 := 13) rfl (by decide) a1 (by decide) (by decide) rfl rfl rfl w1 (ex_p X1 (pm_a hA rfl))
    have er2 : hR h2 x0 14 = some r := by rw [e2, r_R, if_neg (ne_r r01 qr1 (by decide))]; exact er1
    have ee : hR h2 r p.toNatClampNeg = some (hS g) := by rw [e2, r_R, if_pos ⟨rfl, rfl⟩]
    have hS0 : hS g = g.1.1 := rfl
    -- what stood before
    have kR : ∀ {x k : Nat}, ρ x = k → k ≠ 0 → k ≠ 84 → ∀ i, hR h2 x i = hR g x i := fun {x k} hx h0 h84 i => by
      rw [e2, r_R, if_neg (fun w => h84 (by rw [← hx, w.1, qr])), (O1 x (lt x (by rw [hx]; exact h0))).2.2.1]
    have kI : ∀ {x k : Nat}, ρ x = k → k ≠ 0 → ∀ i, hI h2 x i = hI g x i := fun {x k} hx h0 i => by
      rw [e2]
      show hI o1 x i = _
      exact (O1 x (lt x (by rw [hx]; exact h0))).1 i
    have kr : ∀ i, ¬ i = p.toNatClampNeg → hR h2 r i = hR g r i := fun i hi => by
      rw [e2, r_R, if_neg (fun w => hi w.2), (O1 r (lt r (by rw [qr]; decide))).2.2.1]
    have pek : ∀ b, ρ b = 13 → PE b g → PE b h2 := fun b hb pb M P m1 m2 k k1 k2 => by
      rw [kR hb (by decide) (by decide)] at m1 m2
      have rM := rr T (thR T hb (i := 0) (k2 := 62) rfl (by decide)) m1
      have rP := rr T (thR T hb (i := 4) (k2 := 63) rfl (by decide)) m2
      rw [kI hb (by decide)] at k2
      rw [kI rP (by decide), kI rM (by decide)]
      exact pb M P m1 m2 k k1 k2
    have nI : ∀ i, hI h2 (hS g) i = 0 := fun i => by rw [e2]; show hI o1 (hS g) i = 0; rw [eo]; exact boH_I g 0 i (by decide)
    have nR : ∀ i M, hR h2 (hS g) i = some M → g.1.1 ≤ M := fun i M hM => by
      rw [e2, r_R, if_neg (fun w => absurd (w.1 ▸ a1) (by rw [qr1]; decide)), eo, hS0, boH_R] at hM
      split at hM
      · have := Option.some.inj hM; omega
      · split at hM
        · have := Option.some.inj hM; omega
        · split at hM
          · have := Option.some.inj hM; omega
          · split at hM
            · have := Option.some.inj hM; omega
            · exact absurd hM (by simp)
    have bd2 : BdP x0 h2 := by
      refine ⟨fun r' s' p1 p2 i hi hs => ?_, fun r' p1 i j a b ne ea eb k hk M M' m1 m2 => ?_⟩
      · have y1 := r_eq er2 p1
        subst y1
        rw [kR r_x0 (by decide) (by decide)] at p2
        have qs := rr T (thR T r_x0 (i := 15) (k2 := 85) rfl (by decide)) p2
        rw [kI qs (by decide)] at hs
        by_cases w : i = p.toNatClampNeg
        · exact ⟨hS g, by rw [w]; exact ee, pe_0 (by rw [nI]; rfl)⟩
        · obtain ⟨b, eb, pb⟩ := bd.1 r' s' er p2 i hi hs
          exact ⟨b, by rw [kr i w]; exact eb, pek b (thRn T qr (k2 := 13) rfl (by decide) eb) pb⟩
      · have y1 := r_eq er2 p1
        subst y1
        have old : ∀ i a M, ¬ i = p.toNatClampNeg → hR h2 r' i = some a → hR h2 a k = some M → hR g r' i = some a ∧ hR g a k = some M ∧ M < g.1.1 := fun i a M hi ha hM => by
          rw [kr i hi] at ha
          have ra := thRn T qr (k2 := 13) rfl (by decide) ha
          rw [kR ra (by decide) (by decide)] at hM
          exact ⟨ha, hM, rl a k M (by rw [ra]; decide) hM⟩
        by_cases wi : i = p.toNatClampNeg
        · have wj : ¬ j = p.toNatClampNeg := fun w => ne (by rw [wi, w])
          rw [wi, ee] at ea
          have ea := Option.some.inj ea
          rw [← ea] at m1
          have := nR k M m1
          have := (old j b M' wj eb m2).2.2
          omega
        · by_cases wj : j = p.toNatClampNeg
          · rw [wj, ee] at eb
            have eb := Option.some.inj eb
            rw [← eb] at m2
            have := nR k M' m2
            have := (old i a M wi ea m1).2.2
            omega
          · obtain ⟨u1, u2, _⟩ := old i a M wi ea m1
            obtain ⟨v1, v2, _⟩ := old j b M' wj eb m2
            exact bd.2 r' er i j a b ne u1 v1 k hk M M' u2 v2
    refine s_imp (kp_35 (F := F) hF (ex_A X1 hA) (ex_O X1 hi_3400) (ex_w X1 r_x1 (by decide) o_x1) T2 r01 r11 i2 er2 ee bd2 (pek x1 r_x1 pe)) (fun o ho => ⟨ρ1, c1', X1, ho⟩)
  | some r4 =>
    show Sat (sX15_keep_35 F g x0 x1 p) _
    exact s_imp (kp_35 (F := F) hF hA hi_3400 o_x1 T r_x0 r_x1 i2 er q bd pe) (fun o ho => ⟨ρ, c, ex_0, ho⟩)

set_option maxRecDepth 20000 in
theorem zX15_endedBy_61 {ρ : Nat → Nat} {c : Cm} {F : Nat} {w_x1 : Nat} (hF : 700000 ≤ F) (hA : pmA c [(16, 29)]) {h : Hp} {x0 : Nat} {x1 : Nat} (o_x1 : cw c x1 = w_x1) (T : TH ρ c h) (r_x0 : ρ x0 = 16) (r_x1 : ρ x1 = 13) : Sat (sX15_endedBy_61 F h x0 x1) (ZI ρ c (0) (6)) := by
  unfold sX15_endedBy_61 sX15_endedBy_100
  obtain ⟨r_1, e_r_1, q_r_1⟩ := thR T r_x0 (k := 16) (i := 4) (k2 := 15) rfl (by decide)
  refine s_ref e_r_1 ?_
  refine s_br (fun c_1 => ?_) (fun c_1 => ?_)
  · have _ := c_1
    have i_f_2 : Rg (0) (0) ((hI h r_1 22)) := rg_eq c_1 (rg_b rfl : Rg (0) (0) (0 : Int32))
    refine s_hq (th_wI T r_x0 (k := 16) (lo := (0)) (hi := (2)) rfl ((rg_m (rg_b rfl : Rg (2) (2) ((2 : Int32))) (by decide)) : Rg (0) (2) ((2 : Int32))) (by decide) (by decide) (pm_a hA rfl)) (fun h_1q1 T_3 w_4 => ?_)
    exact s_some ⟨(T_3), (rg_m (rg_b rfl : Rg (6) (6) ((6 : Int32))) (by decide))⟩
  · have _ := c_1
    have i_f_5 : Rg (1) (2) ((hI h r_1 22)) := rg_nlo c_1 (thI T q_r_1 (k := 15) (i := 22) rfl : Rg (0) (2) ((hI h r_1 22))) (rg_b rfl : Rg (0) (0) (0 : Int32))
    refine s_ref e_r_1 ?_
    refine s_br (fun c_6 => ?_) (fun c_6 => ?_)
    · have _ := c_6
      have i_f_7 : Rg (1) (1) ((hI h r_1 22)) := rg_eq c_6 (rg_b rfl : Rg (1) (1) ((1 : Int32)))
      refine s_hq (th_wI T r_x0 (k := 16) (lo := (0)) (hi := (2)) rfl ((rg_m (thI T r_x1 (k := 13) (i := 1) rfl : Rg (0) (1) ((hI h x1 1))) (by decide)) : Rg (0) (2) ((hI h x1 1))) (by decide) (by decide) (pm_a hA rfl)) (fun h_1q2 T_8 w_9 => ?_)
      exact s_some ⟨(T_8), (rg_m (rg_b rfl : Rg (6) (6) ((6 : Int32))) (by decide))⟩
    · have _ := c_6
      have i_f_10 : Rg (2) (2) ((hI h r_1 22)) := rg_nlo c_6 i_f_5 (rg_b rfl : Rg (1) (1) ((1 : Int32)))
      refine s_hq (th_wI T r_x0 (k := 16) (lo := (0)) (hi := (2)) rfl ((rg_m (rg_sub (rg_b rfl : Rg (1) (1) ((1 : Int32))) (thI T r_x1 (k := 13) (i := 1) rfl : Rg (0) (1) ((hI h x1 1))) (by decide) : Rg (0) (1) (((1 : Int32) - (hI h x1 1)))) (by decide)) : Rg (0) (2) (((1 : Int32) - (hI h x1 1)))) (by decide) (by decide) (pm_a hA rfl)) (fun h_1q3 T_11 w_12 => ?_)
      exact s_some ⟨(T_11), (rg_m (rg_b rfl : Rg (6) (6) ((6 : Int32))) (by decide))⟩
set_option maxRecDepth 20000 in
theorem zX15_endedBy {ρ : Nat → Nat} {c : Cm} {F : Nat} {w_x1 : Nat} (hF : 700000 ≤ F) (hA : pmA c [(16, 23), (16, 24), (16, 29)]) {h : Hp} {x0 : Nat} {x1 : Nat} {x2 : Int32} (o_x1 : cw c x1 = w_x1) (T : TH ρ c h) (r_x0 : ρ x0 = 16) (r_x1 : ρ x1 = 13) (i_x2 : Rg (0) (3000) (x2)) : Sat (sX15_endedBy F h x0 x1 x2) (ZI ρ c (0) (6)) := by
  unfold sX15_endedBy sX15_endedBy_14
  refine s_cI (zX15_early hF (pmA_s hA rfl) o_x1 T r_x0 r_x1) (fun o_1 T_1 i_o_1 => ?_)
  refine s_br (fun c_2 => ?_) (fun c_2 => ?_)
  · have _ := c_2
    have i_f_3 : Rg (1) (4) (o_1.1) := rg_lt2 c_2 (rg_b rfl : Rg (0) (0) (0 : Int32)) i_o_1
    exact s_some ⟨(T_1), (rg_m i_f_3 (by decide))⟩
  · have _ := c_2
    have i_f_4 : Rg (0) (0) (o_1.1) := rg_le1 (nlt_le c_2) i_o_1 (rg_b rfl : Rg (0) (0) (0 : Int32))
    refine s_br (fun c_5 => ?_) (fun c_5 => ?_)
    · have _ := c_5
      have i_f_6 : Rg (0) (0) (x2) := rg_le1 c_5 i_x2 (rg_b rfl : Rg (0) (0) (0 : Int32))
      refine s_dI0 (zX15_royalOf hF T_1 r_x0 r_x1 (thI T_1 r_x1 (k := 13) (i := 1) rfl : Rg (0) (1) ((hI o_1.2 x1 1)))) (fun o_4 eb_o_4 e_o_4 i_o_4 => ?_)
      have T_7 := th_eq e_o_4 T_1
      refine s_br (fun c_8 => ?_) (fun c_8 => ?_)
      · have _ := c_8
        have i_f_9 : Rg (-1) (-1) (o_4.1) := rg_eq c_8 (rg_b rfl : Rg (-1) (-1) ((- 1 : Int32)))
        exact zX15_endedBy_61 hF (pmA_s hA rfl) o_x1 T_7 r_x0 r_x1
      · have _ := c_8
        have i_f_10 : Rg (0) (63) (o_4.1) := rg_nlo c_8 i_o_4 (rg_b rfl : Rg (-1) (-1) ((- 1 : Int32)))
        refine s_cI (zX15_isAttacked hF (pmA_s hA rfl) o_x1 T_7 r_x0 r_x1 i_f_10 (rg_sub (rg_b rfl : Rg (1) (1) ((1 : Int32))) (thI T_7 r_x1 (k := 13) (i := 1) rfl : Rg (0) (1) ((hI o_4.2 x1 1))) (by decide) : Rg (0) (1) (((1 : Int32) - (hI o_4.2 x1 1))))) (fun o_6 T_11 i_o_6 => ?_)
        refine s_br (fun c_12 => ?_) (fun c_12 => ?_)
        · have _ := c_12
          have i_f_13 : Rg (0) (0) (o_6.1) := rg_eq c_12 (rg_b rfl : Rg (0) (0) (0 : Int32))
          exact zX15_endedBy_61 hF (pmA_s hA rfl) o_x1 T_11 r_x0 r_x1
        · have _ := c_12
          have i_f_14 : Rg (1) (1) (o_6.1) := rg_nlo c_12 i_o_6 (rg_b rfl : Rg (0) (0) (0 : Int32))
          refine s_hq (th_wI T_11 r_x0 (k := 16) (lo := (0)) (hi := (2)) rfl ((rg_m (rg_sub (rg_b rfl : Rg (1) (1) ((1 : Int32))) (thI T_11 r_x1 (k := 13) (i := 1) rfl : Rg (0) (1) ((hI o_6.2 x1 1))) (by decide) : Rg (0) (1) (((1 : Int32) - (hI o_6.2 x1 1)))) (by decide)) : Rg (0) (2) (((1 : Int32) - (hI o_6.2 x1 1)))) (by decide) (by decide) (pm_a hA rfl)) (fun h_8 T_15 w_16 => ?_)
          exact s_some ⟨(T_15), (rg_m (rg_b rfl : Rg (5) (5) ((5 : Int32))) (by decide))⟩
    · have _ := c_5
      have i_f_17 : Rg (1) (3000) (x2) := rg_lt2 (nle_lt c_5) (rg_b rfl : Rg (0) (0) (0 : Int32)) i_x2
      exact s_some ⟨(T_1), (rg_m i_f_4 (by decide))⟩
set_option maxRecDepth 20000 in
theorem zX15_layState_111 {ρ : Nat → Nat} {c : Cm} {F : Nat} (hF : 700000 ≤ F) {k_27 : Hp → Nat → Int32 → Int32 → Int32 → Int32 → Option (Int32 × Hp)} {C_27 : Int} (hk_27 : ∀ {h : Hp} {x0 : Nat} {x1 : Int32} {x3 : Int32} {x4 : Int32} {x5 : Int32}, TH ρ c h → ρ x0 = 16 → Rg (0) (4095) (x1) → Rg (0) (1073741823) (x3) → Rg (-1) (63) (x4) → Rg (0) (5) (x5) → C_27 < x5.toInt → Sat (k_27 h x0 x1 x3 x4 x5) (ZI ρ c (0) (1))) (hi_2560 : pmO c 2560 [(62, 999)]) {h : Hp} {x0 : Nat} {x1 : Int32} {x3 : Int32} {x5 : Int32} {x6 : Int32} {x7 : Int32} (T : TH ρ c h) (r_x0 : ρ x0 = 16) (i_x1 : Rg (0) (4095) (x1)) (i_x3 : Rg (0) (119304647) (x3)) (i_x5 : Rg (0) (4) (x5)) (i_x6 : Rg (0) (63) (x6)) (i_x7 : Rg (0) (24) (x7)) (hc_27 : C_27 ≤ x5.toInt) : Sat (sX15_layState_111 F k_27 h x0 x1 x3 x5 x6 x7) (ZI ρ c (0) (1)) := by
  unfold sX15_layState_111 
  obtain ⟨r_1, e_r_1, q_r_1⟩ := thR T r_x0 (k := 16) (i := 60) (k2 := 13) rfl (by decide)
  refine s_ref e_r_1 ?_
  obtain ⟨r_2, e_r_2, q_r_2⟩ := thR T q_r_1 (k := 13) (i := 0) (k2 := 62) rfl (by decide)
  refine s_ref e_r_2 ?_
  refine s_gd (by rw [thN T q_r_2 (k := 62) (n := 64) rfl (by decide)]; exact rg_inB (i_x6 : Rg (0) (63) (x6)) (by decide)) ?_
  refine s_hq (th_wI T q_r_2 (k := 62) (lo := (0)) (hi := (24)) rfl (i_x7 : Rg (0) (24) (x7)) (by decide) (by decide) (pm_o hi_2560 (th_ih T q_r_1 (k := 13) rfl e_r_2 (th_id T r_x0 (k := 16) (i := 60) (w := 2560) e_r_1 rfl (by decide))) rfl)) (fun h_4 T_1 w_2 => ?_)
  refine s_q (fun v_5 e_3 => ?_)
  have i_v_5 : Rg (1) (5) (v_5) := by rw [e_3]; exact (rg_add i_x5 (rg_b rfl : Rg (1) (1) ((1 : Int32))) (by decide) : Rg (1) (5) (x5 + (1 : Int32)))
  have m_4 : (v_5).toInt = x5.toInt + 1 := by rw [e_3]; exact rg_inc i_x5 (by decide)
  exact hk_27 T_1 r_x0 i_x1 (rg_m i_x3 (by decide)) (rg_m i_x6 (by decide)) (rg_m i_v_5 (by decide)) (by have := hc_27; omega)
set_option maxRecDepth 20000 in
theorem zX15_layState_27 {ρ : Nat → Nat} {c : Cm} {F : Nat} (hF : 700000 ≤ F) (hi_2560 : pmO c 2560 [(62, 999)]) : ∀ (f : Nat) {h : Hp} {x0 : Nat} {x1 : Int32} {x3 : Int32} {x4 : Int32} {x5 : Int32}, TH ρ c h → ρ x0 = 16 → Rg (0) (4095) (x1) → Rg (0) (1073741823) (x3) → Rg (-1) (63) (x4) → Rg (0) (5) (x5) → (5 - x5.toInt).toNat < f → Sat (sX15_layState_27 F f h x0 x1 x3 x4 x5) (ZI ρ c (0) (1)) := by
  intro f
  induction f with
  | zero => intros; omega
  | succ f ih =>
    intro h x0 x1 x3 x4 x5 T r_x0 i_x1 i_x3 i_x4 i_x5 hm
    rw [sX15_layState_27]
    unfold sX15_layState_109
    obtain ⟨C_27, hC_27⟩ : ∃ C : Int, C = x5.toInt := ⟨_, rfl⟩
    have hk_27 : ∀ {h : Hp} {x0 : Nat} {x1 : Int32} {x3 : Int32} {x4 : Int32} {x5 : Int32}, TH ρ c h → ρ x0 = 16 → Rg (0) (4095) (x1) → Rg (0) (1073741823) (x3) → Rg (-1) (63) (x4) → Rg (0) (5) (x5) → C_27 < x5.toInt → Sat (sX15_layState_27 F f h x0 x1 x3 x4 x5) (ZI ρ c (0) (1)) := by
      intro h' x0' x1' x3' x4' x5' T' r_x0' i_x1' i_x3' i_x4' i_x5' hl
      exact ih T' r_x0' i_x1' i_x3' i_x4' i_x5' (by have := i_x5'.1; have := i_x5'.2; omega)
    have hc_27 : C_27 ≤ x5.toInt := by omega
    obtain ⟨r_1, e_r_1, q_r_1⟩ := thR T r_x0 (k := 16) (i := 46) (k2 := 99) rfl (by decide)
    refine s_ref e_r_1 ?_
    refine s_gd (by rw [thN T q_r_1 (k := 99) (n := 4096) rfl (by decide)]; exact rg_inB (i_x1 : Rg (0) (4095) (x1)) (by decide)) ?_
    refine s_br (fun c_1 => ?_) (fun c_1 => ?_)
    · have _ := c_1
      exact s_some ⟨(T), (rg_m (rg_b rfl : Rg (1) (1) ((1 : Int32))) (by decide))⟩
    · have _ := c_1
      have i_f_2 : Rg (0) (4) (x5) := rg_lt1 (nle_lt c_1) i_x5 (thI T q_r_1 (k := 99) rfl : Rg (0) (5) ((hI h r_1 x1.toNatClampNeg)))
      have i_f_3 : Rg (1) (5) ((hI h r_1 x1.toNatClampNeg)) := rg_lt2 (nle_lt c_1) i_x5 (thI T q_r_1 (k := 99) rfl : Rg (0) (5) ((hI h r_1 x1.toNatClampNeg)))
      refine s_gd (rg_ne0 (thI T r_x0 (k := 16) (i := 13) rfl : Rg (9) (64) ((hI h x0 13))) (by decide)) ?_
      refine s_q (fun v_5 e_4 => ?_)
      have i_v_5 : Rg (0) (63) (v_5) := by rw [e_4]; exact (rg_rem i_x3 (thI T r_x0 (k := 16) (i := 13) rfl : Rg (9) (64) ((hI h x0 13))) (by decide) : Rg (0) (63) (x3 - x3 / (hI h x0 13) * (hI h x0 13)))
      refine s_gd (rg_ne0 (thI T r_x0 (k := 16) (i := 13) rfl : Rg (9) (64) ((hI h x0 13))) (by decide)) ?_
      refine s_q (fun v_7 e_5 => ?_)
      have i_v_7 : Rg (0) (119304647) (v_7) := by rw [e_5]; exact (rg_divw i_x3 (thI T r_x0 (k := 16) (i := 13) rfl : Rg (9) (64) ((hI h x0 13))) (by decide) : Rg (0) (119304647) (x3 / (hI h x0 13)))
      obtain ⟨r_8, e_r_8, q_r_8⟩ := thR T r_x0 (k := 16) (i := 47) (k2 := 100) rfl (by decide)
      refine s_ref e_r_8 ?_
      refine s_gd (by rw [thN T q_r_8 (k := 100) (n := 20480) rfl (by decide)]; exact rg_inB ((rg_add (rg_mulc' (rg_b rfl : Rg (5) (5) ((5 : Int32))) i_x1 (by decide) : Rg (0) (20475) (((5 : Int32) * x1))) i_f_2 (by decide) : Rg (0) (20479) ((((5 : Int32) * x1) + x5))) : Rg (0) (20479) ((((5 : Int32) * x1) + x5))) (by decide)) ?_
      refine s_q (fun v_10 e_6 => ?_)
      have i_v_10 : Rg (0) (24) (v_10) := by rw [e_6]; exact (thI T q_r_8 (k := 100) rfl : Rg (0) (24) (hI h r_8 (((5 : Int32) * x1) + x5).toNatClampNeg))
      obtain ⟨r_11, e_r_11, q_r_11⟩ := thR T r_x0 (k := 16) (i := 60) (k2 := 13) rfl (by decide)
      refine s_ref e_r_11 ?_
      obtain ⟨r_12, e_r_12, q_r_12⟩ := thR T q_r_11 (k := 13) (i := 0) (k2 := 62) rfl (by decide)
      refine s_ref e_r_12 ?_
      refine s_gd (by rw [thN T q_r_12 (k := 62) (n := 64) rfl (by decide)]; exact rg_inB (i_v_5 : Rg (0) (63) (v_5)) (by decide)) ?_
      refine s_br (fun c_7 => ?_) (fun c_7 => ?_)
      · have _ := c_7
        have i_f_8 : Rg (1) (24) ((hI h r_12 v_5.toNatClampNeg)) := rg_lt2 c_7 (rg_b rfl : Rg (0) (0) (0 : Int32)) (thI T q_r_12 (k := 62) rfl : Rg (0) (24) ((hI h r_12 v_5.toNatClampNeg)))
        exact s_some ⟨(T), (rg_m (rg_b rfl : Rg (0) (0) ((0 : Int32))) (by decide))⟩
      · have _ := c_7
        have i_f_9 : Rg (0) (0) ((hI h r_12 v_5.toNatClampNeg)) := rg_le1 (nlt_le c_7) (thI T q_r_12 (k := 62) rfl : Rg (0) (24) ((hI h r_12 v_5.toNatClampNeg))) (rg_b rfl : Rg (0) (0) (0 : Int32))
        refine s_br (fun c_10 => ?_) (fun c_10 => ?_)
        · have _ := c_10
          have i_f_11 : Rg (0) (0) (x5) := rg_le1 c_10 i_f_2 (rg_b rfl : Rg (0) (0) (0 : Int32))
          exact zX15_layState_111 hF @hk_27 (pmO_s hi_2560 rfl) T r_x0 i_x1 i_v_7 (rg_m i_f_11 (by decide)) i_v_5 i_v_10 hc_27
        · have _ := c_10
          have i_f_12 : Rg (1) (4) (x5) := rg_lt2 (nle_lt c_10) (rg_b rfl : Rg (0) (0) (0 : Int32)) i_f_2
          refine s_ref e_r_8 ?_
          refine s_gd (by rw [thN T q_r_8 (k := 100) (n := 20480) rfl (by decide)]; exact rg_inB ((rg_m (rg_sub (rg_add (rg_mulc' (rg_b rfl : Rg (5) (5) ((5 : Int32))) i_x1 (by decide) : Rg (0) (20475) (((5 : Int32) * x1))) i_f_12 (by decide) : Rg (1) (20479) ((((5 : Int32) * x1) + x5))) (rg_b rfl : Rg (1) (1) ((1 : Int32))) (by decide) : Rg (0) (20478) (((((5 : Int32) * x1) + x5) - (1 : Int32)))) (by decide)) : Rg (0) (20479) (((((5 : Int32) * x1) + x5) - (1 : Int32)))) (by decide)) ?_
          refine s_br (fun c_13 => ?_) (fun c_13 => ?_)
          · have _ := c_13
            refine s_br (fun c_14 => ?_) (fun c_14 => ?_)
            · have _ := c_14
              exact zX15_layState_111 hF @hk_27 (pmO_s hi_2560 rfl) T r_x0 i_x1 i_v_7 (rg_m i_f_12 (by decide)) i_v_5 i_v_10 hc_27
            · have _ := c_14
              have i_f_15 : Rg (0) (62) (v_5) := rg_lt1 (nle_lt c_14) i_v_5 i_x4
              have i_f_16 : Rg (1) (63) (x4) := rg_lt2 (nle_lt c_14) i_v_5 i_x4
              exact s_some ⟨(T), (rg_m (rg_b rfl : Rg (0) (0) ((0 : Int32))) (by decide))⟩
          · have _ := c_13
            exact zX15_layState_111 hF @hk_27 (pmO_s hi_2560 rfl) T r_x0 i_x1 i_v_7 (rg_m i_f_12 (by decide)) i_v_5 i_v_10 hc_27
set_option maxRecDepth 20000 in
theorem zX15_layState {ρ : Nat → Nat} {c : Cm} {F : Nat} (hF : 700000 ≤ F) (hi_2560 : pmO c 2560 [(62, 999), (64, 999), (65, 999), (13, 1), (13, 2), (13, 3), (13, 7)]) {h : Hp} {x0 : Nat} {x1 : Int32} {x2 : Int32} (T : TH ρ c h) (r_x0 : ρ x0 = 16) (i_x1 : Rg (0) (4095) (x1)) (i_x2 : Rg (0) (2147483646) (x2)) : Sat (sX15_layState F h x0 x1 x2) (ZI ρ c (0) (1)) := by
  unfold sX15_layState 
  obtain ⟨r_1, e_r_1, q_r_1⟩ := thR T r_x0 (k := 16) (i := 60) (k2 := 13) rfl (by decide)
  refine s_ref e_r_1 ?_
  refine s_cV (zX12_clear hF (pmO_s hi_2560 rfl) (th_id T r_x0 (k := 16) (i := 60) (w := 2560) e_r_1 rfl (by decide)) T q_r_1) (fun o_2 T_1 => ?_)
  obtain ⟨r_3, e_r_3, q_r_3⟩ := thR T_1 r_x0 (k := 16) (i := 60) (k2 := 13) rfl (by decide)
  refine s_ref e_r_3 ?_
  refine s_hq (th_wI T_1 q_r_3 (k := 13) (lo := (0)) (hi := (1)) rfl ((rg_and (rg_b rfl : Rg (1) (1) ((1 : Int32))) (by decide) : Rg (0) (1) ((x2 &&& (1 : Int32)))) : Rg (0) (1) ((x2 &&& (1 : Int32)))) (by decide) (by decide) (pm_o hi_2560 (th_id T_1 r_x0 (k := 16) (i := 60) (w := 2560) e_r_3 rfl (by decide)) rfl)) (fun h_4 T_2 w_3 => ?_)
  refine s_q (fun v_5 e_4 => ?_)
  have i_v_5 : Rg (0) (1073741823) (v_5) := by rw [e_4]; exact (rg_shrk 1 (by decide) i_x2 (by decide) : Rg (0) (1073741823) (x2 >>> ((1 : Int32) &&& 31)))
  have m_5 : Rg (0) (5) ((0 : Int32)) := (rg_m (rg_b rfl : Rg (0) (0) ((0 : Int32))) (by decide))
  exact zX15_layState_27 hF (pmO_s hi_2560 rfl) F T_2 r_x0 i_x1 i_v_5 (rg_m (rg_b rfl : Rg (-1) (-1) ((- 1 : Int32))) (by decide)) (rg_m (rg_b rfl : Rg (0) (0) ((0 : Int32))) (by decide)) (by have := m_5.1; have := m_5.2; omega)
set_option maxRecDepth 20000 in
theorem zX15_maskOf_11 {ρ : Nat → Nat} {c : Cm} {h0 : Hp} {F : Nat} (hF : 700000 ≤ F) : ∀ (f : Nat) {h : Hp} {x0 : Nat} {x1 : Int32} {x2 : Int32} {x3 : Int32} {x4 : Int32} {x5 : Int32} {x6 : Int32}, h = h0 → TH ρ c h → ρ x0 = 16 → Rg (0) (4095) (x1) → Rg (-2147483643) (2147483646) (x2) → Rg (-2147483648) (2147483647) (x3) → Rg (0) (1) (x4) → Rg (-2147483648) (2147483647) (x5) → Rg (0) (5) (x6) → (5 - x6.toInt).toNat < f → Sat (sX15_maskOf_11 F f h x0 x1 x2 x3 x4 x5 x6) (ZI0 h0 (-2147483648) (2147483647)) := by
  intro f
  induction f with
  | zero => intros; omega
  | succ f ih =>
    intro h x0 x1 x2 x3 x4 x5 x6 E T r_x0 i_x1 i_x2 i_x3 i_x4 i_x5 i_x6 hm
    rw [sX15_maskOf_11]
    unfold sX15_sideOf sX15_maskOf_60 sX15_maskOf_65 sX15_maskOf_64
    obtain ⟨C_11, hC_11⟩ : ∃ C : Int, C = x6.toInt := ⟨_, rfl⟩
    have hk_11 : ∀ {h : Hp} {x0 : Nat} {x1 : Int32} {x2 : Int32} {x3 : Int32} {x4 : Int32} {x5 : Int32} {x6 : Int32}, h = h0 → TH ρ c h → ρ x0 = 16 → Rg (0) (4095) (x1) → Rg (-2147483643) (2147483646) (x2) → Rg (-2147483648) (2147483647) (x3) → Rg (0) (1) (x4) → Rg (-2147483648) (2147483647) (x5) → Rg (0) (5) (x6) → C_11 < x6.toInt → Sat (sX15_maskOf_11 F f h x0 x1 x2 x3 x4 x5 x6) (ZI0 h0 (-2147483648) (2147483647)) := by
      intro h' x0' x1' x2' x3' x4' x5' x6' E' T' r_x0' i_x1' i_x2' i_x3' i_x4' i_x5' i_x6' hl
      exact ih E' T' r_x0' i_x1' i_x2' i_x3' i_x4' i_x5' i_x6' (by have := i_x6'.1; have := i_x6'.2; omega)
    have hc_11 : C_11 ≤ x6.toInt := by omega
    obtain ⟨r_1, e_r_1, q_r_1⟩ := thR T r_x0 (k := 16) (i := 46) (k2 := 99) rfl (by decide)
    refine s_ref e_r_1 ?_
    refine s_gd (by rw [thN T q_r_1 (k := 99) (n := 4096) rfl (by decide)]; exact rg_inB (i_x1 : Rg (0) (4095) (x1)) (by decide)) ?_
    refine s_br (fun c_1 => ?_) (fun c_1 => ?_)
    · have _ := c_1
      obtain ⟨r_4, e_r_4, q_r_4⟩ := thR T r_x0 (k := 16) (i := 53) (k2 := 104) rfl (by decide)
      refine s_ref e_r_4 ?_
      refine s_gd (by rw [thN T q_r_4 (k := 104) (n := 4096) rfl (by decide)]; exact rg_inB (i_x1 : Rg (0) (4095) (x1)) (by decide)) ?_
      refine s_ref e_r_1 ?_
      refine s_gd (by rw [thN T q_r_1 (k := 99) (n := 4096) rfl (by decide)]; exact rg_inB (i_x1 : Rg (0) (4095) (x1)) (by decide)) ?_
      exact s_some ⟨E, (rg_top _ : Rg (-2147483648) (2147483647) (((hI h r_4 x1.toNatClampNeg) + ((hI h r_1 x1.toNatClampNeg) * (x2 >>> ((1 : Int32) &&& 31)))) + x5))⟩
    · have _ := c_1
      have i_f_2 : Rg (0) (4) (x6) := rg_lt1 (nle_lt c_1) i_x6 (thI T q_r_1 (k := 99) rfl : Rg (0) (5) ((hI h r_1 x1.toNatClampNeg)))
      have i_f_3 : Rg (1) (5) ((hI h r_1 x1.toNatClampNeg)) := rg_lt2 (nle_lt c_1) i_x6 (thI T q_r_1 (k := 99) rfl : Rg (0) (5) ((hI h r_1 x1.toNatClampNeg)))
      obtain ⟨r_8, e_r_8, q_r_8⟩ := thR T r_x0 (k := 16) (i := 47) (k2 := 100) rfl (by decide)
      refine s_ref e_r_8 ?_
      refine s_gd (by rw [thN T q_r_8 (k := 100) (n := 20480) rfl (by decide)]; exact rg_inB ((rg_add (rg_mulc' (rg_b rfl : Rg (5) (5) ((5 : Int32))) i_x1 (by decide) : Rg (0) (20475) (((5 : Int32) * x1))) i_f_2 (by decide) : Rg (0) (20479) ((((5 : Int32) * x1) + x6))) : Rg (0) (20479) ((((5 : Int32) * x1) + x6))) (by decide)) ?_
      refine s_pu (fun o_10z e_4 => ?_)
      try dsimp only
      have i_o_10z : Rg (0) (1) (o_10z) := by rw [e_4]; exact (rg_and (rg_b rfl : Rg (1) (1) ((1 : Int32))) (by decide) : Rg (0) (1) (((hI h r_8 (((5 : Int32) * x1) + x6).toNatClampNeg) - (1 : Int32)) &&& (1 : Int32)))
      refine s_br (fun c_5 => ?_) (fun c_5 => ?_)
      · have _ := c_5
        have i_f_6 : Rg (0) (0) (o_10z) := rg_lt1 c_5 i_o_10z i_x4
        have i_f_7 : Rg (1) (1) (x4) := rg_lt2 c_5 i_o_10z i_x4
        refine s_q (fun v_1q2 e_8 => ?_)
        have i_v_1q2 : Rg (-2147483648) (2147483647) (v_1q2) := by rw [e_8]; exact (rg_top _ : Rg (-2147483648) (2147483647) (x5 + (1 : Int32)))
        refine s_q (fun v_2q2 e_9 => ?_)
        have i_v_2q2 : Rg (1) (5) (v_2q2) := by rw [e_9]; exact (rg_add i_f_2 (rg_b rfl : Rg (1) (1) ((1 : Int32))) (by decide) : Rg (1) (5) (x6 + (1 : Int32)))
        have m_10 : (v_2q2).toInt = x6.toInt + 1 := by rw [e_9]; exact rg_inc i_f_2 (by decide)
        exact hk_11 E T r_x0 i_x1 i_x2 i_x3 (rg_m i_f_7 (by decide)) i_v_1q2 (rg_m i_v_2q2 (by decide)) (by have := hc_11; omega)
      · have _ := c_5
        refine s_br (fun c_11 => ?_) (fun c_11 => ?_)
        · have _ := c_11
          refine s_br (fun c_12 => ?_) (fun c_12 => ?_)
          · have _ := c_12
            have i_f_13 : Rg (-2147483648) (4) (x3) := rg_le1 c_12 i_x3 i_f_2
            refine s_q (fun v_1q4 e_14 => ?_)
            have i_v_1q4 : Rg (-2147483648) (2147483647) (v_1q4) := by rw [e_14]; exact (rg_add i_x5 (rg_b rfl : Rg (0) (0) ((0 : Int32))) (by decide) : Rg (-2147483648) (2147483647) (x5 + (0 : Int32)))
            refine s_q (fun v_2q4 e_15 => ?_)
            have i_v_2q4 : Rg (1) (5) (v_2q4) := by rw [e_15]; exact (rg_add i_f_2 (rg_b rfl : Rg (1) (1) ((1 : Int32))) (by decide) : Rg (1) (5) (x6 + (1 : Int32)))
            have m_16 : (v_2q4).toInt = x6.toInt + 1 := by rw [e_15]; exact rg_inc i_f_2 (by decide)
            exact hk_11 E T r_x0 i_x1 i_x2 (rg_m i_f_13 (by decide)) i_x4 i_v_1q4 (rg_m i_v_2q4 (by decide)) (by have := hc_11; omega)
          · have _ := c_12
            have i_f_17 : Rg (1) (2147483647) (x3) := rg_lt2 (nle_lt c_12) i_f_2 i_x3
            refine s_q (fun v_1q6 e_18 => ?_)
            have i_v_1q6 : Rg (-2147483648) (2147483647) (v_1q6) := by rw [e_18]; exact (rg_top _ : Rg (-2147483648) (2147483647) (x5 + (1 : Int32)))
            refine s_q (fun v_2q6 e_19 => ?_)
            have i_v_2q6 : Rg (1) (5) (v_2q6) := by rw [e_19]; exact (rg_add i_f_2 (rg_b rfl : Rg (1) (1) ((1 : Int32))) (by decide) : Rg (1) (5) (x6 + (1 : Int32)))
            have m_20 : (v_2q6).toInt = x6.toInt + 1 := by rw [e_19]; exact rg_inc i_f_2 (by decide)
            exact hk_11 E T r_x0 i_x1 i_x2 (rg_m i_f_17 (by decide)) i_x4 i_v_1q6 (rg_m i_v_2q6 (by decide)) (by have := hc_11; omega)
        · have _ := c_11
          refine s_q (fun v_1q8 e_21 => ?_)
          have i_v_1q8 : Rg (-2147483648) (2147483647) (v_1q8) := by rw [e_21]; exact (rg_add i_x5 (rg_b rfl : Rg (0) (0) ((0 : Int32))) (by decide) : Rg (-2147483648) (2147483647) (x5 + (0 : Int32)))
          refine s_q (fun v_2q8 e_22 => ?_)
          have i_v_2q8 : Rg (1) (5) (v_2q8) := by rw [e_22]; exact (rg_add i_f_2 (rg_b rfl : Rg (1) (1) ((1 : Int32))) (by decide) : Rg (1) (5) (x6 + (1 : Int32)))
          have m_23 : (v_2q8).toInt = x6.toInt + 1 := by rw [e_22]; exact rg_inc i_f_2 (by decide)
          exact hk_11 E T r_x0 i_x1 i_x2 i_x3 i_x4 i_v_1q8 (rg_m i_v_2q8 (by decide)) (by have := hc_11; omega)
set_option maxRecDepth 20000 in
theorem zX15_maskOf {ρ : Nat → Nat} {c : Cm} {F : Nat} (hF : 700000 ≤ F) {h : Hp} {x0 : Nat} {x1 : Int32} {x2 : Int32} {x3 : Int32} (T : TH ρ c h) (r_x0 : ρ x0 = 16) (i_x1 : Rg (0) (4095) (x1)) (i_x2 : Rg (-2147483643) (2147483646) (x2)) (i_x3 : Rg (-2147483648) (2147483647) (x3)) : Sat (sX15_maskOf F h x0 x1 x2 x3) (ZI0 h (-2147483648) (2147483647)) := by
  unfold sX15_maskOf 
  refine s_q (fun v_1 e_1 => ?_)
  have i_v_1 : Rg (0) (1) (v_1) := by rw [e_1]; exact (rg_and (rg_b rfl : Rg (1) (1) ((1 : Int32))) (by decide) : Rg (0) (1) (x2 &&& (1 : Int32)))
  have m_2 : Rg (0) (5) ((0 : Int32)) := (rg_m (rg_b rfl : Rg (0) (0) ((0 : Int32))) (by decide))
  exact zX15_maskOf_11 hF F rfl T r_x0 i_x1 i_x2 i_x3 i_v_1 (rg_m (rg_b rfl : Rg (0) (0) ((0 : Int32))) (by decide)) (rg_m (rg_b rfl : Rg (0) (0) ((0 : Int32))) (by decide)) (by have := m_2.1; have := m_2.2; omega)
set_option maxRecDepth 20000 in
theorem zX15_hasCatch_11 {ρ : Nat → Nat} {c : Cm} {F : Nat} (hF : 700000 ≤ F) : ∀ (f : Nat) {h : Hp} {x0 : Nat} {x2 : Int32}, TH ρ c h → ρ x0 = 16 → Rg (0) (3000) (x2) → (SqOk x0 h) → (3000 - x2.toInt).toNat < f → Sat (sX15_hasCatch_11 F f h x0 x2) (ZI ρ c (0) (1)) := by
  intro f
  induction f with
  | zero => intros; omega
  | succ f ih =>
    intro h x0 x2 T r_x0 i_x2 sq hm
    rw [sX15_hasCatch_11]
    obtain ⟨C_11, hC_11⟩ : ∃ C : Int, C = x2.toInt := ⟨_, rfl⟩
    have hk_11 : ∀ {h : Hp} {x0 : Nat} {x2 : Int32}, TH ρ c h → ρ x0 = 16 → Rg (0) (3000) (x2) → (SqOk x0 h) → C_11 < x2.toInt → Sat (sX15_hasCatch_11 F f h x0 x2) (ZI ρ c (0) (1)) := by
      intro h' x0' x2' T' r_x0' i_x2' sq' hl
      exact ih T' r_x0' i_x2' sq' (by have := i_x2'.1; have := i_x2'.2; omega)
    have hc_11 : C_11 ≤ x2.toInt := by omega
    obtain ⟨r_1, e_r_1, q_r_1⟩ := thR T r_x0 (k := 16) (i := 31) (k2 := 14) rfl (by decide)
    refine s_ref e_r_1 ?_
    refine s_br (fun c_1 => ?_) (fun c_1 => ?_)
    · have _ := c_1
      exact s_some ⟨(T), (rg_m (rg_b rfl : Rg (0) (0) ((0 : Int32))) (by decide))⟩
    · have _ := c_1
      have i_f_2 : Rg (0) (2999) (x2) := rg_lt1 (nle_lt c_1) i_x2 (thI T q_r_1 (k := 14) (i := 0) rfl : Rg (0) (3000) ((hI h r_1 0)))
      have i_f_3 : Rg (1) (3000) ((hI h r_1 0)) := rg_lt2 (nle_lt c_1) i_x2 (thI T q_r_1 (k := 14) (i := 0) rfl : Rg (0) (3000) ((hI h r_1 0)))
      refine s_ref e_r_1 ?_
      obtain ⟨r_4, e_r_4, q_r_4⟩ := thR T q_r_1 (k := 14) (i := 6) (k2 := 71) rfl (by decide)
      refine s_ref e_r_4 ?_
      refine s_gd (by rw [thN T q_r_4 (k := 71) (n := 3000) rfl (by decide)]; exact rg_inB (i_f_2 : Rg (0) (2999) (x2)) (by decide)) ?_
      refine s_br (fun c_4 => ?_) (fun c_4 => ?_)
      · have _ := c_4
        have i_f_5 : Rg (1) (1) ((hI h r_4 x2.toNatClampNeg)) := rg_eq c_4 (rg_b rfl : Rg (1) (1) ((1 : Int32)))
        exact s_some ⟨(T), (rg_m (rg_b rfl : Rg (1) (1) ((1 : Int32))) (by decide))⟩
      · have _ := c_4
        refine s_q (fun v_7 e_6 => ?_)
        have i_v_7 : Rg (1) (3000) (v_7) := by rw [e_6]; exact (rg_add i_f_2 (rg_b rfl : Rg (1) (1) ((1 : Int32))) (by decide) : Rg (1) (3000) (x2 + (1 : Int32)))
        have m_7 : (v_7).toInt = x2.toInt + 1 := by rw [e_6]; exact rg_inc i_f_2 (by decide)
        exact hk_11 T r_x0 (rg_m i_v_7 (by decide)) sq (by have := hc_11; omega)
set_option maxRecDepth 20000 in
theorem zX15_hasCatch {ρ : Nat → Nat} {c : Cm} {F : Nat} {w_x1 : Nat} (hF : 700000 ≤ F) (hA : pmA c [(87, 999), (88, 999), (89, 999), (16, 23), (16, 24), (16, 29)]) (hi_2528 : pmO c 2528 [(62, 999), (63, 999), (64, 999), (65, 999), (13, 1), (13, 2), (13, 3), (13, 7)]) (hi_2531 : pmO c 2531 [(66, 999), (67, 999), (68, 999), (69, 999), (70, 999), (71, 999), (72, 999), (14, 0)]) {h : Hp} {x0 : Nat} {x1 : Nat} (o_x1 : cw c x1 = w_x1) (nw_x1_2528 : ¬ w_x1 = 2528) (T : TH ρ c h) (r_x0 : ρ x0 = 16) (r_x1 : ρ x1 = 13) (sq : (SqOk x0 h)) (pe : (PE x1 h)) : Sat (sX15_hasCatch F h x0 x1) (ZI ρ c (0) (1)) := by
  unfold sX15_hasCatch 
  obtain ⟨r_1, e_r_1, q_r_1⟩ := thR T r_x0 (k := 16) (i := 31) (k2 := 14) rfl (by decide)
  refine s_ref e_r_1 ?_
  refine s_cVfq (S := fS [(87, 999), (88, 999), (89, 999), (16, 23), (16, 24), (16, 29)] [(2528, [(62, 999), (63, 999), (64, 999), (65, 999), (13, 1), (13, 2), (13, 3), (13, 7)]), (2531, [(66, 999), (67, 999), (68, 999), (69, 999), (70, 999), (71, 999), (72, 999), (14, 0)])]) T (fs_sub (pmA_s hA rfl) (fs_c (pmO_s hi_2528 rfl) (fs_c (pmO_s hi_2531 rfl) fs_n))) (zX15_legal hF fs_a (fs_o (.head _)) (fs_o (.tail _ (.head _))) o_x1 (th_id T r_x0 (k := 16) (i := 31) (w := 2531) e_r_1 rfl (by decide)) nw_x1_2528 (th_in _ T) r_x0 r_x1 q_r_1 sq pe) (fun o_2 T_1 f_o_2 p_o_2 => ?_)
  have pf_2 : SqOk x0 o_2 := (sq_fr T r_x0 f_o_2 (fun _ => rfl) (fun _ => rfl) (fun _ => rfl) sq)
  have m_3 : Rg (0) (3000) ((0 : Int32)) := (rg_m (rg_b rfl : Rg (0) (0) ((0 : Int32))) (by decide))
  exact zX15_hasCatch_11 hF F T_1 r_x0 (rg_m (rg_b rfl : Rg (0) (0) ((0 : Int32))) (by decide)) pf_2 (by have := m_3.1; have := m_3.2; omega)
