set_option maxRecDepth 20000 in
theorem zX7_readClock {ρ : Nat → Nat} {c : Cm} {F : Nat} {w_x1 : Nat} (hF : 700000 ≤ F) (m5 : c.2.1 5 = true) (hA : pmA c [(8, 2)]) (hO_x1 : pmO c w_x1 [(4, 6)]) {h : Hp} {x0 : Nat} {x1 : Nat} (o_x1 : cw c x1 = w_x1) (T : TH ρ c h) (r_x0 : ρ x0 = 8) (r_x1 : ρ x1 = 4) (c0 : ((hI h x1 6).toInt = 0)) : Sat (sX7_readClock F h x0 x1) (ZI ρ c (0) (1)) := by
  unfold sX7_readClock 
  refine s_q (fun v_1 e_1 => ?_)
  have i_v_1 : Rg (0) (1201) (v_1) := by rw [e_1]; exact (thI T r_x0 (k := 8) (i := 2) rfl : Rg (0) (1201) (hI h x0 2))
  have m_2 : Rg (0) (3) ((0 : Int32)) := (rg_m (rg_b rfl : Rg (0) (0) ((0 : Int32))) (by decide))
  exact zX7_readClock_7 hF m5 (pmA_s hA rfl) (pmO_s hO_x1 rfl) F o_x1 T r_x0 r_x1 i_v_1 (rg_m (rg_b rfl : Rg (0) (0) ((0 : Int32))) (by decide)) (show (((0 : Int32)).toInt = 0 ∧ (hI h x1 6).toInt = 0) ∨ (((0 : Int32)).toInt = 1 ∧ (hI h x1 6).toInt ≤ 9) ∨ (((0 : Int32)).toInt = 2 ∧ (hI h x1 6).toInt ≤ 99) ∨ ((0 : Int32)).toInt = 3 from (by have : ((0 : Int32)).toInt = 0 := rfl; have hq_ := ((thI T r_x1 (k := 4) (i := 6) rfl : Rg (0) (999) ((hI h x1 6))) : Rg (0) (999) ((hI h x1 6))); have := hq_.1; have := hq_.2; clear o_x1; omega)) (by have := m_2.1; have := m_2.2; omega)
set_option maxRecDepth 20000 in
theorem zX7_takeByte {ρ : Nat → Nat} {c : Cm} {F : Nat} (hF : 700000 ≤ F) (m5 : c.2.1 5 = true) (hA : pmA c [(8, 2)]) {h : Hp} {x0 : Nat} {x1 : Int32} (T : TH ρ c h) (r_x0 : ρ x0 = 8) (i_x1 : Rg (32) (47) (x1)) : Sat (sX7_takeByte h x0 x1) (ZI ρ c (0) (1)) := by
  unfold sX7_takeByte 
  obtain ⟨r_1, e_r_1, q_r_1⟩ := thM T r_x0 (k := 8) (i := 1) (j := 5) (k2 := 10) rfl (by decide) rfl (by decide) m5
  refine s_ref e_r_1 ?_
  refine s_dP0 (zX9_byteAt hF T q_r_1 (rg_m (thI T r_x0 (k := 8) (i := 2) rfl : Rg (0) (1201) ((hI h x0 2))) (by decide))) (fun o_2 eb_o_2 e_o_2 i_o_2 p_o_2 => ?_)
  have T_1 := th_eq e_o_2 T
  refine s_br (fun c_2 => ?_) (fun c_2 => ?_)
  · have _ := c_2
    have i_f_3 : Rg (32) (47) (o_2.1) := rg_eq c_2 i_x1
    have p_f_4 := p_o_2 (fun q => rc_eq q i_f_3 (rg_b rfl : Rg (-1) (-1) (-1 : Int32)) (by decide))
    refine s_hq (th_wI T_1 r_x0 (k := 8) (lo := (0)) (hi := (1201)) rfl ((rg_m (rg_add ((rg_he e_o_2 p_f_4) : Rg (0) (1199) ((hI o_2.2 x0 2))) (rg_b rfl : Rg (1) (1) ((1 : Int32))) (by decide) : Rg (1) (1200) (((hI o_2.2 x0 2) + (1 : Int32)))) (by decide)) : Rg (0) (1201) (((hI o_2.2 x0 2) + (1 : Int32)))) (by decide) (by decide) (pm_a hA rfl)) (fun h_4 T_5 w_6 => ?_)
    exact s_some ⟨(T_5), (rg_m (rg_b rfl : Rg (1) (1) ((1 : Int32))) (by decide))⟩
  · have _ := c_2
    exact s_some ⟨(T_1), (rg_m (rg_b rfl : Rg (0) (0) ((0 : Int32))) (by decide))⟩
set_option maxRecDepth 20000 in
theorem zX7_readHands_39 {ρ : Nat → Nat} {c : Cm} {F : Nat} {w_x1 : Nat} (hF : 700000 ≤ F) (m5 : c.2.1 5 = true) {k_13 : Hp → Nat → Nat → Int32 → Option (Int32 × Hp)} {C_13 : Int} (hk_13 : ∀ {h : Hp} {x0 : Nat} {x1 : Nat} {x2 : Int32}, cw c x1 = w_x1 → TH ρ c h → ρ x0 = 8 → ρ x1 = 4 → Rg (0) (32) (x2) → C_13 < x2.toInt → Sat (k_13 h x0 x1 x2) (ZI ρ c (0) (1))) (hA : pmA c [(8, 2)]) (hO_x1 : pmO c w_x1 [(37, 999)]) {h : Hp} {x0 : Nat} {x1 : Nat} {x2 : Int32} (o_x1 : cw c x1 = w_x1) (T : TH ρ c h) (r_x0 : ρ x0 = 8) (r_x1 : ρ x1 = 4) (i_x2 : Rg (0) (31) (x2)) (hc_13 : C_13 ≤ x2.toInt) : Sat (sX7_readHands_39 F k_13 h x0 x1 x2) (ZI ρ c (0) (1)) := by
  unfold sX7_readHands_39 sX7_readHands_78
  obtain ⟨r_1, e_r_1, q_r_1⟩ := thR T r_x0 (k := 8) (i := 0) (k2 := 2) rfl (by decide)
  refine s_ref e_r_1 ?_
  obtain ⟨r_2, e_r_2, q_r_2⟩ := thM T r_x0 (k := 8) (i := 1) (j := 5) (k2 := 10) rfl (by decide) rfl (by decide) m5
  refine s_ref e_r_2 ?_
  refine s_dP0 (zX9_byteAt hF T q_r_2 (rg_m (thI T r_x0 (k := 8) (i := 2) rfl : Rg (0) (1201) ((hI h x0 2))) (by decide))) (fun o_3 eb_o_3 e_o_3 i_o_3 p_o_3 => ?_)
  have T_1 := th_eq e_o_3 T
  refine s_dI0q (zX1_codeOf hF T_1 q_r_1 i_o_3) (fun o_4 eb_o_4 e_o_4 i_o_4 pp_o_4 => ?_)
  have pq_o_4_0 : o_4.1.toInt = -1 ∨ (0 ≤ ((o_3.1).toInt) ∧ ((o_3.1).toInt) ≤ 255) := pp_o_4
  have T_2 := th_eq e_o_4 T_1
  refine s_br (fun c_3 => ?_) (fun c_3 => ?_)
  · have _ := c_3
    have i_f_4 : Rg (-1) (-1) (o_4.1) := rg_eq c_3 (rg_b rfl : Rg (-1) (-1) ((- 1 : Int32)))
    exact s_some ⟨(T_2), (rg_m (rg_b rfl : Rg (0) (0) ((0 : Int32))) (by decide))⟩
  · have _ := c_3
    have i_f_5 : Rg (0) (23) (o_4.1) := rg_nlo c_3 i_o_4 (rg_b rfl : Rg (-1) (-1) ((- 1 : Int32)))
    refine s_dI0 (zX3_inHand hF T_2 r_x1 (rg_and (rg_b rfl : Rg (1) (1) ((1 : Int32))) (by decide) : Rg (0) (1) ((o_4.1 &&& (1 : Int32)))) (rg_m (rg_shrk 1 (by decide) i_f_5 (by decide) : Rg (0) (11) ((o_4.1 >>> ((1 : Int32) &&& 31)))) (by decide))) (fun o_6 eb_o_6 e_o_6 i_o_6 => ?_)
    have T_6 := th_eq e_o_6 T_2
    refine s_br (fun c_7 => ?_) (fun c_7 => ?_)
    · have _ := c_7
      have i_f_8 : Rg (0) (15) (o_6.1) := rg_lt1 c_7 i_o_6 (rg_b rfl : Rg (16) (16) ((16 : Int32)))
      refine s_cVf (S := fS [] [(w_x1, [(37, 999)])]) T_6 (fs_sub pmA_n (fs_c (pmO_s hO_x1 rfl) fs_n)) (zX3_addToHand hF (fs_o (.head _)) o_x1 (th_in _ T_6) r_x1 (rg_and (rg_b rfl : Rg (1) (1) ((1 : Int32))) (by decide) : Rg (0) (1) ((o_4.1 &&& (1 : Int32)))) (rg_m (rg_shrk 1 (by decide) i_f_5 (by decide) : Rg (0) (11) ((o_4.1 >>> ((1 : Int32) &&& 31)))) (by decide)) (rg_m (rg_b rfl : Rg (1) (1) ((1 : Int32))) (by decide))) (fun o_8 T_9 f_o_8 => ?_)
      have og_12 : Rg (0) (1201) (((hI o_8 x0 2) + (1 : Int32))) := ⟨(by have : (((hI o_8 x0 2) + (1 : Int32)) : Int32).toInt = ((hI o_8 x0 2) : Int32).toInt + ((1 : Int32) : Int32).toInt := ti_add ((thI T_9 r_x0 (k := 8) (i := 2) rfl : Rg (0) (1201) ((hI o_8 x0 2))) : Rg (0) (1201) ((hI o_8 x0 2))) ((rg_b rfl : Rg (1) (1) ((1 : Int32))) : Rg (1) (1) ((1 : Int32))) (by decide); have hq_ := ((thI T_9 r_x0 (k := 8) (i := 2) rfl : Rg (0) (1201) ((hI o_8 x0 2))) : Rg (0) (1201) ((hI o_8 x0 2))); have := hq_.1; have := hq_.2; have : (hI o_8 x0 2).toInt = (hI o_6.2 x0 2).toInt := congrArg Int32.toInt (fr_I f_o_8 r_x0 (by decide) rfl rfl); have : (hI o_6.2 x0 2).toInt = (hI o_4.2 x0 2).toInt := congrArg Int32.toInt (he_e e_o_6); have : (hI o_4.2 x0 2).toInt = (hI o_3.2 x0 2).toInt := congrArg Int32.toInt (he_e e_o_4); have : (hI o_3.2 x0 2).toInt = (hI h x0 2).toInt := congrArg Int32.toInt (he_e e_o_3); have : ((1 : Int32)).toInt = 1 := rfl; have := (i_o_3 : Rg (-1) (255) (o_3.1)).1; have := (i_o_3 : Rg (-1) (255) (o_3.1)).2; have := (i_f_5 : Rg (0) (23) (o_4.1)).1; have := (i_f_5 : Rg (0) (23) (o_4.1)).2; have : (o_3.1).toInt = -1 ∨ (0 ≤ ((hI h x0 2)).toInt ∧ ((hI h x0 2)).toInt ≤ 1199) := p1_or p_o_3; have hq_ := ((thI T r_x0 (k := 8) (i := 2) rfl : Rg (0) (1201) ((hI h x0 2))) : Rg (0) (1201) ((hI h x0 2))); have := hq_.1; have := hq_.2; have := ne_i c_3; have : ((- 1 : Int32)).toInt = -1 := rfl; clear o_x1; omega), (by have : (((hI o_8 x0 2) + (1 : Int32)) : Int32).toInt = ((hI o_8 x0 2) : Int32).toInt + ((1 : Int32) : Int32).toInt := ti_add ((thI T_9 r_x0 (k := 8) (i := 2) rfl : Rg (0) (1201) ((hI o_8 x0 2))) : Rg (0) (1201) ((hI o_8 x0 2))) ((rg_b rfl : Rg (1) (1) ((1 : Int32))) : Rg (1) (1) ((1 : Int32))) (by decide); have hq_ := ((thI T_9 r_x0 (k := 8) (i := 2) rfl : Rg (0) (1201) ((hI o_8 x0 2))) : Rg (0) (1201) ((hI o_8 x0 2))); have := hq_.1; have := hq_.2; have : (hI o_8 x0 2).toInt = (hI o_6.2 x0 2).toInt := congrArg Int32.toInt (fr_I f_o_8 r_x0 (by decide) rfl rfl); have : (hI o_6.2 x0 2).toInt = (hI o_4.2 x0 2).toInt := congrArg Int32.toInt (he_e e_o_6); have : (hI o_4.2 x0 2).toInt = (hI o_3.2 x0 2).toInt := congrArg Int32.toInt (he_e e_o_4); have : (hI o_3.2 x0 2).toInt = (hI h x0 2).toInt := congrArg Int32.toInt (he_e e_o_3); have : ((1 : Int32)).toInt = 1 := rfl; have := (i_o_3 : Rg (-1) (255) (o_3.1)).1; have := (i_o_3 : Rg (-1) (255) (o_3.1)).2; have := (i_f_5 : Rg (0) (23) (o_4.1)).1; have := (i_f_5 : Rg (0) (23) (o_4.1)).2; have : (o_3.1).toInt = -1 ∨ (0 ≤ ((hI h x0 2)).toInt ∧ ((hI h x0 2)).toInt ≤ 1199) := p1_or p_o_3; have hq_ := ((thI T r_x0 (k := 8) (i := 2) rfl : Rg (0) (1201) ((hI h x0 2))) : Rg (0) (1201) ((hI h x0 2))); have := hq_.1; have := hq_.2; have := ne_i c_3; have : ((- 1 : Int32)).toInt = -1 := rfl; clear o_x1; omega)⟩
      refine s_hq (th_wI T_9 r_x0 (k := 8) (lo := (0)) (hi := (1201)) rfl (og_12 : Rg (0) (1201) (((hI o_8 x0 2) + (1 : Int32)))) (by decide) (by decide) (pm_a hA rfl)) (fun h_9 T_10 w_11 => ?_)
      refine s_q (fun v_10 e_13 => ?_)
      have i_v_10 : Rg (1) (32) (v_10) := by rw [e_13]; exact (rg_add i_x2 (rg_b rfl : Rg (1) (1) ((1 : Int32))) (by decide) : Rg (1) (32) (x2 + (1 : Int32)))
      have m_14 : (v_10).toInt = x2.toInt + 1 := by rw [e_13]; exact rg_inc i_x2 (by decide)
      exact hk_13 o_x1 T_10 r_x0 r_x1 (rg_m i_v_10 (by decide)) (by have := hc_13; omega)
    · have _ := c_7
      have i_f_15 : Rg (16) (31) (o_6.1) := rg_le2 (nlt_le c_7) (rg_b rfl : Rg (16) (16) ((16 : Int32))) i_o_6
      exact s_some ⟨(T_6), (rg_m (rg_b rfl : Rg (0) (0) ((0 : Int32))) (by decide))⟩
set_option maxRecDepth 20000 in
theorem zX7_readHands_13 {ρ : Nat → Nat} {c : Cm} {F : Nat} {w_x1 : Nat} (hF : 700000 ≤ F) (m5 : c.2.1 5 = true) (hA : pmA c [(8, 2)]) (hO_x1 : pmO c w_x1 [(37, 999)]) : ∀ (f : Nat) {h : Hp} {x0 : Nat} {x1 : Nat} {x2 : Int32}, cw c x1 = w_x1 → TH ρ c h → ρ x0 = 8 → ρ x1 = 4 → Rg (0) (32) (x2) → (32 - x2.toInt).toNat < f → Sat (sX7_readHands_13 F f h x0 x1 x2) (ZI ρ c (0) (1)) := by
  intro f
  induction f with
  | zero => intros; omega
  | succ f ih =>
    intro h x0 x1 x2 o_x1 T r_x0 r_x1 i_x2 hm
    rw [sX7_readHands_13]
    unfold sX7_readHands_107
    obtain ⟨C_13, hC_13⟩ : ∃ C : Int, C = x2.toInt := ⟨_, rfl⟩
    have hk_13 : ∀ {h : Hp} {x0 : Nat} {x1 : Nat} {x2 : Int32}, cw c x1 = w_x1 → TH ρ c h → ρ x0 = 8 → ρ x1 = 4 → Rg (0) (32) (x2) → C_13 < x2.toInt → Sat (sX7_readHands_13 F f h x0 x1 x2) (ZI ρ c (0) (1)) := by
      intro h' x0' x1' x2' o_x1' T' r_x0' r_x1' i_x2' hl
      exact ih o_x1' T' r_x0' r_x1' i_x2' (by have := i_x2'.1; have := i_x2'.2; omega)
    have hc_13 : C_13 ≤ x2.toInt := by omega
    refine s_br (fun c_1 => ?_) (fun c_1 => ?_)
    · have _ := c_1
      have i_f_2 : Rg (32) (32) (x2) := rg_le2 c_1 (rg_b rfl : Rg (32) (32) ((32 : Int32))) i_x2
      exact s_some ⟨(T), (rg_m (rg_b rfl : Rg (1) (1) ((1 : Int32))) (by decide))⟩
    · have _ := c_1
      have i_f_3 : Rg (0) (31) (x2) := rg_lt1 (nle_lt c_1) i_x2 (rg_b rfl : Rg (32) (32) ((32 : Int32)))
      refine s_br (fun c_4 => ?_) (fun c_4 => ?_)
      · have _ := c_4
        have i_f_5 : Rg (0) (0) (x2) := rg_eq c_4 (rg_b rfl : Rg (0) (0) (0 : Int32))
        exact zX7_readHands_39 hF m5 @hk_13 (pmA_s hA rfl) (pmO_s hO_x1 rfl) o_x1 T r_x0 r_x1 (rg_m i_f_5 (by decide)) hc_13
      · have _ := c_4
        have i_f_6 : Rg (1) (31) (x2) := rg_nlo c_4 i_f_3 (rg_b rfl : Rg (0) (0) (0 : Int32))
        obtain ⟨r_3, e_r_3, q_r_3⟩ := thM T r_x0 (k := 8) (i := 1) (j := 5) (k2 := 10) rfl (by decide) rfl (by decide) m5
        refine s_ref e_r_3 ?_
        refine s_dP0 (zX9_byteAt hF T q_r_3 (rg_m (thI T r_x0 (k := 8) (i := 2) rfl : Rg (0) (1201) ((hI h x0 2))) (by decide))) (fun o_4 eb_o_4 e_o_4 i_o_4 p_o_4 => ?_)
        have T_7 := th_eq e_o_4 T
        refine s_br (fun c_8 => ?_) (fun c_8 => ?_)
        · have _ := c_8
          have i_f_9 : Rg (32) (32) (o_4.1) := rg_eq c_8 (rg_b rfl : Rg (32) (32) ((32 : Int32)))
          have p_f_10 := p_o_4 (fun q => rc_eq q i_f_9 (rg_b rfl : Rg (-1) (-1) (-1 : Int32)) (by decide))
          exact s_some ⟨(T_7), (rg_m (rg_b rfl : Rg (1) (1) ((1 : Int32))) (by decide))⟩
        · have _ := c_8
          exact zX7_readHands_39 hF m5 @hk_13 (pmA_s hA rfl) (pmO_s hO_x1 rfl) o_x1 T_7 r_x0 r_x1 (rg_m i_f_6 (by decide)) hc_13
set_option maxRecDepth 20000 in
theorem zX7_readHands {ρ : Nat → Nat} {c : Cm} {F : Nat} {w_x1 : Nat} (hF : 700000 ≤ F) (m5 : c.2.1 5 = true) (hA : pmA c [(8, 2)]) (hO_x1 : pmO c w_x1 [(37, 999)]) {h : Hp} {x0 : Nat} {x1 : Nat} (o_x1 : cw c x1 = w_x1) (T : TH ρ c h) (r_x0 : ρ x0 = 8) (r_x1 : ρ x1 = 4) : Sat (sX7_readHands F h x0 x1) (ZI ρ c (0) (1)) := by
  unfold sX7_readHands 
  refine s_cI (zX7_takeByte hF m5 (pmA_s hA rfl) T r_x0 (rg_m (rg_b rfl : Rg (45) (45) ((45 : Int32))) (by decide))) (fun o_1 T_1 i_o_1 => ?_)
  refine s_br (fun c_2 => ?_) (fun c_2 => ?_)
  · have _ := c_2
    have i_f_3 : Rg (0) (0) (o_1.1) := rg_eq c_2 (rg_b rfl : Rg (0) (0) (0 : Int32))
    have m_4 : Rg (0) (32) ((0 : Int32)) := (rg_m (rg_b rfl : Rg (0) (0) ((0 : Int32))) (by decide))
    exact zX7_readHands_13 hF m5 (pmA_s hA rfl) (pmO_s hO_x1 rfl) F o_x1 T_1 r_x0 r_x1 (rg_m (rg_b rfl : Rg (0) (0) ((0 : Int32))) (by decide)) (by have := m_4.1; have := m_4.2; omega)
  · have _ := c_2
    have i_f_5 : Rg (1) (1) (o_1.1) := rg_nlo c_2 i_o_1 (rg_b rfl : Rg (0) (0) (0 : Int32))
    exact s_some ⟨(T_1), (rg_m (rg_b rfl : Rg (1) (1) ((1 : Int32))) (by decide))⟩
set_option maxRecDepth 20000 in
theorem zX7_readSquare {ρ : Nat → Nat} {c : Cm} {F : Nat} (hF : 700000 ≤ F) (m5 : c.2.1 5 = true) (hA : pmA c [(8, 2)]) {h : Hp} {x0 : Nat} (T : TH ρ c h) (r_x0 : ρ x0 = 8) : Sat (sX7_readSquare h x0) (ZI ρ c (-1) (63)) := by
  unfold sX7_readSquare sX7_readSquare_30 sX7_readSquare_72
  obtain ⟨r_1, e_r_1, q_r_1⟩ := thM T r_x0 (k := 8) (i := 1) (j := 5) (k2 := 10) rfl (by decide) rfl (by decide) m5
  refine s_ref e_r_1 ?_
  refine s_dP0 (zX9_byteAt hF T q_r_1 (rg_m (thI T r_x0 (k := 8) (i := 2) rfl : Rg (0) (1201) ((hI h x0 2))) (by decide))) (fun o_2 eb_o_2 e_o_2 i_o_2 p_o_2 => ?_)
  have T_1 := th_eq e_o_2 T
  refine s_q (fun v_3 e_2 => ?_)
  have i_v_3 : Rg (-98) (158) (v_3) := by rw [e_2]; exact (rg_sub i_o_2 (rg_b rfl : Rg (97) (97) ((97 : Int32))) (by decide) : Rg (-98) (158) (o_2.1 - (97 : Int32)))
  refine s_br (fun c_3 => ?_) (fun c_3 => ?_)
  · have _ := c_3
    have i_f_4 : Rg (-98) (-1) (v_3) := rg_lt1 c_3 i_v_3 (rg_b rfl : Rg (0) (0) (0 : Int32))
    have i_f_5 : Rg (-1) (96) (o_2.1) := rg_bks ((by rw [← e_2]; exact i_f_4) : Rg (-98) (-1) (o_2.1 - (97 : Int32))) i_o_2 (rg_b rfl : Rg (97) (97) ((97 : Int32))) (by decide)
    exact s_some ⟨(T_1), (rg_m (rg_b rfl : Rg (-1) (-1) ((- 1 : Int32))) (by decide))⟩
  · have _ := c_3
    have i_f_6 : Rg (0) (158) (v_3) := rg_le2 (nlt_le c_3) (rg_b rfl : Rg (0) (0) (0 : Int32)) i_v_3
    have i_f_7 : Rg (97) (255) (o_2.1) := rg_bks ((by rw [← e_2]; exact i_f_6) : Rg (0) (158) (o_2.1 - (97 : Int32))) i_o_2 (rg_b rfl : Rg (97) (97) ((97 : Int32))) (by decide)
    have p_f_8 := p_o_2 (fun q => rc_eq q i_f_7 (rg_b rfl : Rg (-1) (-1) (-1 : Int32)) (by decide))
    obtain ⟨r_5, e_r_5, q_r_5⟩ := thR T_1 r_x0 (k := 8) (i := 0) (k2 := 2) rfl (by decide)
    refine s_ref e_r_5 ?_
    refine s_br (fun c_9 => ?_) (fun c_9 => ?_)
    · have _ := c_9
      have i_f_10 : Rg (0) (7) (v_3) := rg_lt1 c_9 i_f_6 (thI T_1 q_r_5 (k := 2) (i := 0) rfl : Rg (0) (8) ((hI o_2.2 r_5 0)))
      have i_f_11 : Rg (97) (104) (o_2.1) := rg_bks ((by rw [← e_2]; exact i_f_10) : Rg (0) (7) (o_2.1 - (97 : Int32))) i_f_7 (rg_b rfl : Rg (97) (97) ((97 : Int32))) (by decide)
      have i_f_12 : Rg (1) (8) ((hI o_2.2 r_5 0)) := rg_lt2 c_9 i_f_6 (thI T_1 q_r_5 (k := 2) (i := 0) rfl : Rg (0) (8) ((hI o_2.2 r_5 0)))
      refine s_hq (th_wI T_1 r_x0 (k := 8) (lo := (0)) (hi := (1201)) rfl ((rg_m (rg_add ((rg_he e_o_2 p_f_8) : Rg (0) (1199) ((hI o_2.2 x0 2))) (rg_b rfl : Rg (1) (1) ((1 : Int32))) (by decide) : Rg (1) (1200) (((hI o_2.2 x0 2) + (1 : Int32)))) (by decide)) : Rg (0) (1201) (((hI o_2.2 x0 2) + (1 : Int32)))) (by decide) (by decide) (pm_a hA rfl)) (fun h_7 T_13 w_14 => ?_)
      refine s_ref (hr_w w_14 (hr_e e_o_2 e_r_1)) ?_
      refine s_dP0 (zX9_byteAt hF T_13 q_r_1 (rg_m ((rg_hs w_14 (rg_add ((rg_he e_o_2 p_f_8) : Rg (0) (1199) ((hI o_2.2 x0 2))) (rg_b rfl : Rg (1) (1) ((1 : Int32))) (by decide) : Rg (1) (1200) (((hI o_2.2 x0 2) + (1 : Int32))))) : Rg (1) (1200) ((hI h_7 x0 2))) (by decide))) (fun o_9 eb_o_9 e_o_9 i_o_9 p_o_9 => ?_)
      have T_15 := th_eq e_o_9 T_13
      refine s_q (fun v_10 e_16 => ?_)
      have i_v_10 : Rg (-50) (206) (v_10) := by rw [e_16]; exact (rg_sub i_o_9 (rg_b rfl : Rg (49) (49) ((49 : Int32))) (by decide) : Rg (-50) (206) (o_9.1 - (49 : Int32)))
      refine s_br (fun c_17 => ?_) (fun c_17 => ?_)
      · have _ := c_17
        have i_f_18 : Rg (-50) (-1) (v_10) := rg_lt1 c_17 i_v_10 (rg_b rfl : Rg (0) (0) (0 : Int32))
        have i_f_19 : Rg (-1) (48) (o_9.1) := rg_bks ((by rw [← e_16]; exact i_f_18) : Rg (-50) (-1) (o_9.1 - (49 : Int32))) i_o_9 (rg_b rfl : Rg (49) (49) ((49 : Int32))) (by decide)
        exact s_some ⟨(T_15), (rg_m (rg_b rfl : Rg (-1) (-1) ((- 1 : Int32))) (by decide))⟩
      · have _ := c_17
        have i_f_20 : Rg (0) (206) (v_10) := rg_le2 (nlt_le c_17) (rg_b rfl : Rg (0) (0) (0 : Int32)) i_v_10
        have i_f_21 : Rg (49) (255) (o_9.1) := rg_bks ((by rw [← e_16]; exact i_f_20) : Rg (0) (206) (o_9.1 - (49 : Int32))) i_o_9 (rg_b rfl : Rg (49) (49) ((49 : Int32))) (by decide)
        have p_f_22 := p_o_9 (fun q => rc_eq q i_f_21 (rg_b rfl : Rg (-1) (-1) (-1 : Int32)) (by decide))
        refine s_ref (hr_e e_o_9 (hr_w w_14 e_r_5)) ?_
        refine s_br (fun c_23 => ?_) (fun c_23 => ?_)
        · have _ := c_23
          have i_f_24 : Rg (0) (7) (v_10) := rg_lt1 c_23 i_f_20 (thI T_15 q_r_5 (k := 2) (i := 1) rfl : Rg (0) (8) ((hI o_9.2 r_5 1)))
          have i_f_25 : Rg (49) (56) (o_9.1) := rg_bks ((by rw [← e_16]; exact i_f_24) : Rg (0) (7) (o_9.1 - (49 : Int32))) i_f_21 (rg_b rfl : Rg (49) (49) ((49 : Int32))) (by decide)
          have i_f_26 : Rg (1) (8) ((hI o_9.2 r_5 1)) := rg_lt2 c_23 i_f_20 (thI T_15 q_r_5 (k := 2) (i := 1) rfl : Rg (0) (8) ((hI o_9.2 r_5 1)))
          refine s_hq (th_wI T_15 r_x0 (k := 8) (lo := (0)) (hi := (1201)) rfl ((rg_m (rg_add ((rg_he e_o_9 p_f_22) : Rg (0) (1199) ((hI o_9.2 x0 2))) (rg_b rfl : Rg (1) (1) ((1 : Int32))) (by decide) : Rg (1) (1200) (((hI o_9.2 x0 2) + (1 : Int32)))) (by decide)) : Rg (0) (1201) (((hI o_9.2 x0 2) + (1 : Int32)))) (by decide) (by decide) (pm_a hA rfl)) (fun h_14 T_27 w_28 => ?_)
          refine s_ref (hr_w w_28 (hr_e e_o_9 (hr_w w_14 e_r_5))) ?_
          exact s_some ⟨(T_27), (rg_m (rg_add (rg_mul i_f_24 ((rg_hw w_28 (ne_r q_r_5 r_x0 (by decide)) (rg_he e_o_9 (rg_hw w_14 (ne_r q_r_5 r_x0 (by decide)) i_f_12))) : Rg (1) (8) ((hI h_14 r_5 0))) (by decide) : Rg (0) (56) ((v_10 * (hI h_14 r_5 0)))) i_f_10 (by decide) : Rg (0) (63) ((v_10 * (hI h_14 r_5 0)) + v_3)) (by decide))⟩
        · have _ := c_23
          exact s_some ⟨(T_15), (rg_m (rg_b rfl : Rg (-1) (-1) ((- 1 : Int32))) (by decide))⟩
    · have _ := c_9
      exact s_some ⟨(T_1), (rg_m (rg_b rfl : Rg (-1) (-1) ((- 1 : Int32))) (by decide))⟩
set_option maxRecDepth 20000 in
theorem zX7_readPass_41 {ρ : Nat → Nat} {c : Cm} {F : Nat} {w_x1 : Nat} (hF : 700000 ≤ F) (m5 : c.2.1 5 = true) {k_13 : Hp → Nat → Nat → Int32 → Option (Int32 × Hp)} {C_13 : Int} (hk_13 : ∀ {h : Hp} {x0 : Nat} {x1 : Nat} {x2 : Int32}, cw c x1 = w_x1 → TH ρ c h → ρ x0 = 8 → ρ x1 = 4 → Rg (0) (1200) (x2) → C_13 < x2.toInt → Sat (k_13 h x0 x1 x2) (ZI ρ c (0) (1))) (hA : pmA c [(8, 2)]) (hO_x1 : pmO c w_x1 [(4, 9), (4, 10)]) {h : Hp} {x0 : Nat} {x1 : Nat} {x2 : Int32} (o_x1 : cw c x1 = w_x1) (T : TH ρ c h) (r_x0 : ρ x0 = 8) (r_x1 : ρ x1 = 4) (i_x2 : Rg (0) (1199) (x2)) (hc_13 : C_13 ≤ x2.toInt) : Sat (sX7_readPass_41 F k_13 h x0 x1 x2) (ZI ρ c (0) (1)) := by
  unfold sX7_readPass_41 
  refine s_cI (zX7_readSquare hF m5 (pmA_s hA rfl) T r_x0) (fun o_1 T_1 i_o_1 => ?_)
  refine s_br (fun c_2 => ?_) (fun c_2 => ?_)
  · have _ := c_2
    have i_f_3 : Rg (-1) (-1) (o_1.1) := rg_eq c_2 (rg_b rfl : Rg (-1) (-1) ((- 1 : Int32)))
    exact s_some ⟨(T_1), (rg_m (rg_b rfl : Rg (0) (0) ((0 : Int32))) (by decide))⟩
  · have _ := c_2
    have i_f_4 : Rg (0) (63) (o_1.1) := rg_nlo c_2 i_o_1 (rg_b rfl : Rg (-1) (-1) ((- 1 : Int32)))
    refine s_cV (zX3_addPass hF (pmO_s hO_x1 rfl) o_x1 T_1 r_x1 (rg_m i_f_4 (by decide))) (fun o_3 T_5 => ?_)
    refine s_q (fun v_4 e_6 => ?_)
    have i_v_4 : Rg (1) (1200) (v_4) := by rw [e_6]; exact (rg_add i_x2 (rg_b rfl : Rg (1) (1) ((1 : Int32))) (by decide) : Rg (1) (1200) (x2 + (1 : Int32)))
    have m_7 : (v_4).toInt = x2.toInt + 1 := by rw [e_6]; exact rg_inc i_x2 (by decide)
    exact hk_13 o_x1 T_5 r_x0 r_x1 (rg_m i_v_4 (by decide)) (by have := hc_13; omega)
set_option maxRecDepth 20000 in
theorem zX7_readPass_13 {ρ : Nat → Nat} {c : Cm} {F : Nat} {w_x1 : Nat} (hF : 700000 ≤ F) (m5 : c.2.1 5 = true) (hA : pmA c [(8, 2)]) (hO_x1 : pmO c w_x1 [(4, 9), (4, 10)]) : ∀ (f : Nat) {h : Hp} {x0 : Nat} {x1 : Nat} {x2 : Int32}, cw c x1 = w_x1 → TH ρ c h → ρ x0 = 8 → ρ x1 = 4 → Rg (0) (1200) (x2) → (1200 - x2.toInt).toNat < f → Sat (sX7_readPass_13 F f h x0 x1 x2) (ZI ρ c (0) (1)) := by
  intro f
  induction f with
  | zero => intros; omega
  | succ f ih =>
    intro h x0 x1 x2 o_x1 T r_x0 r_x1 i_x2 hm
    rw [sX7_readPass_13]
    unfold sX7_readPass_64
    obtain ⟨C_13, hC_13⟩ : ∃ C : Int, C = x2.toInt := ⟨_, rfl⟩
    have hk_13 : ∀ {h : Hp} {x0 : Nat} {x1 : Nat} {x2 : Int32}, cw c x1 = w_x1 → TH ρ c h → ρ x0 = 8 → ρ x1 = 4 → Rg (0) (1200) (x2) → C_13 < x2.toInt → Sat (sX7_readPass_13 F f h x0 x1 x2) (ZI ρ c (0) (1)) := by
      intro h' x0' x1' x2' o_x1' T' r_x0' r_x1' i_x2' hl
      exact ih o_x1' T' r_x0' r_x1' i_x2' (by have := i_x2'.1; have := i_x2'.2; omega)
    have hc_13 : C_13 ≤ x2.toInt := by omega
    refine s_br (fun c_1 => ?_) (fun c_1 => ?_)
    · have _ := c_1
      have i_f_2 : Rg (1200) (1200) (x2) := rg_le2 c_1 (rg_b rfl : Rg (1200) (1200) ((1200 : Int32))) i_x2
      exact s_some ⟨(T), (rg_m (rg_b rfl : Rg (1) (1) ((1 : Int32))) (by decide))⟩
    · have _ := c_1
      have i_f_3 : Rg (0) (1199) (x2) := rg_lt1 (nle_lt c_1) i_x2 (rg_b rfl : Rg (1200) (1200) ((1200 : Int32)))
      refine s_br (fun c_4 => ?_) (fun c_4 => ?_)
      · have _ := c_4
        have i_f_5 : Rg (0) (1) (x2) := rg_lt1 c_4 i_f_3 (rg_b rfl : Rg (2) (2) ((2 : Int32)))
        exact zX7_readPass_41 hF m5 @hk_13 (pmA_s hA rfl) (pmO_s hO_x1 rfl) o_x1 T r_x0 r_x1 (rg_m i_f_5 (by decide)) hc_13
      · have _ := c_4
        have i_f_6 : Rg (2) (1199) (x2) := rg_le2 (nlt_le c_4) (rg_b rfl : Rg (2) (2) ((2 : Int32))) i_f_3
        obtain ⟨r_3, e_r_3, q_r_3⟩ := thM T r_x0 (k := 8) (i := 1) (j := 5) (k2 := 10) rfl (by decide) rfl (by decide) m5
        refine s_ref e_r_3 ?_
        refine s_dP0 (zX9_byteAt hF T q_r_3 (rg_m (thI T r_x0 (k := 8) (i := 2) rfl : Rg (0) (1201) ((hI h x0 2))) (by decide))) (fun o_4 eb_o_4 e_o_4 i_o_4 p_o_4 => ?_)
        have T_7 := th_eq e_o_4 T
        refine s_br (fun c_8 => ?_) (fun c_8 => ?_)
        · have _ := c_8
          have i_f_9 : Rg (32) (32) (o_4.1) := rg_eq c_8 (rg_b rfl : Rg (32) (32) ((32 : Int32)))
          have p_f_10 := p_o_4 (fun q => rc_eq q i_f_9 (rg_b rfl : Rg (-1) (-1) (-1 : Int32)) (by decide))
          exact s_some ⟨(T_7), (rg_m (rg_b rfl : Rg (1) (1) ((1 : Int32))) (by decide))⟩
        · have _ := c_8
          exact zX7_readPass_41 hF m5 @hk_13 (pmA_s hA rfl) (pmO_s hO_x1 rfl) o_x1 T_7 r_x0 r_x1 (rg_m i_f_6 (by decide)) hc_13
set_option maxRecDepth 20000 in
theorem zX7_readPass {ρ : Nat → Nat} {c : Cm} {F : Nat} {w_x1 : Nat} (hF : 700000 ≤ F) (m5 : c.2.1 5 = true) (hA : pmA c [(8, 2)]) (hO_x1 : pmO c w_x1 [(4, 9), (4, 10)]) {h : Hp} {x0 : Nat} {x1 : Nat} (o_x1 : cw c x1 = w_x1) (T : TH ρ c h) (r_x0 : ρ x0 = 8) (r_x1 : ρ x1 = 4) : Sat (sX7_readPass F h x0 x1) (ZI ρ c (0) (1)) := by
  unfold sX7_readPass 
  refine s_cI (zX7_takeByte hF m5 (pmA_s hA rfl) T r_x0 (rg_m (rg_b rfl : Rg (45) (45) ((45 : Int32))) (by decide))) (fun o_1 T_1 i_o_1 => ?_)
  refine s_br (fun c_2 => ?_) (fun c_2 => ?_)
  · have _ := c_2
    have i_f_3 : Rg (0) (0) (o_1.1) := rg_eq c_2 (rg_b rfl : Rg (0) (0) (0 : Int32))
    have m_4 : Rg (0) (1200) ((0 : Int32)) := (rg_m (rg_b rfl : Rg (0) (0) ((0 : Int32))) (by decide))
    exact zX7_readPass_13 hF m5 (pmA_s hA rfl) (pmO_s hO_x1 rfl) F o_x1 T_1 r_x0 r_x1 (rg_m (rg_b rfl : Rg (0) (0) ((0 : Int32))) (by decide)) (by have := m_4.1; have := m_4.2; omega)
  · have _ := c_2
    have i_f_5 : Rg (1) (1) (o_1.1) := rg_nlo c_2 i_o_1 (rg_b rfl : Rg (0) (0) (0 : Int32))
    exact s_some ⟨(T_1), (rg_m (rg_b rfl : Rg (1) (1) ((1 : Int32))) (by decide))⟩
set_option maxRecDepth 20000 in
theorem zX7_readRanks_127 {ρ : Nat → Nat} {c : Cm} {F : Nat} {w_x1 : Nat} {g0 : Hp} (hF : 700000 ≤ F) {k_10 : Hp → Nat → Nat → Int32 → Option (Int32 × Hp)} {C_10 : Int} {k_40 : Hp → Nat → Nat → Int32 → Int32 → Option (Int32 × Hp)} {C_40 : Int} (hk_10 : ∀ {h : Hp} {x0 : Nat} {x1 : Nat} {x2 : Int32}, cw c x1 = w_x1 → TH ρ c h → ρ x0 = 8 → ρ x1 = 4 → Rg (-1) (7) (x2) → (LwR ρ c h) → (RkP x0 x2 h) → (RyC ρ c g0 h) → (NoM x1 h) → x2.toInt < C_10 → Sat (k_10 h x0 x1 x2) (ZQ (ZI ρ c (0) (1)) (fun o => (RyC ρ c g0 o.2) ∧ (NoM x1 o.2)))) (hk_40 : ∀ {h : Hp} {x0 : Nat} {x1 : Nat} {x2 : Int32} {x3 : Int32}, cw c x1 = w_x1 → TH ρ c h → ρ x0 = 8 → ρ x1 = 4 → Rg (0) (7) (x2) → Rg (0) (8) (x3) → x2.toInt ≤ C_10 → (LwR ρ c h) → (RkP x0 x2 h) → (RyC ρ c g0 h) → (NoM x1 h) → (0 ≤ (8 - x3.toInt) ∧ (8 - x3.toInt) < C_40) → Sat (k_40 h x0 x1 x2 x3) (ZQ (ZI ρ c (0) (1)) (fun o => (RyC ρ c g0 o.2) ∧ (NoM x1 o.2)))) (hA : pmA c [(8, 2)]) (hO_x1 : pmO c w_x1 [(34, 999), (35, 999), (36, 999), (4, 7)]) {h : Hp} {x0 : Nat} {x1 : Nat} {x2 : Int32} {x3 : Int32} {x5 : Int32} {x6 : Int32} (o_x1 : cw c x1 = w_x1) (T : TH ρ c h) (r_x0 : ρ x0 = 8) (r_x1 : ρ x1 = 4) (i_x2 : Rg (0) (7) (x2)) (i_x3 : Rg (0) (7) (x3)) (i_x5 : Rg (-1) (23) (x5)) (i_x6 : Rg (0) (8) (x6)) (hc_10 : x2.toInt ≤ C_10) (hc_40 : (0 ≤ (8 - x3.toInt) ∧ (8 - x3.toInt) ≤ C_40)) (rb : ((hI h x0 2).toInt ≤ 1199 ∧ (x5.toInt = -1 → 1 ≤ x6.toInt ∧ x3.toInt + x6.toInt ≤ 8))) (lw : (LwR ρ c h)) (rk : (RkP x0 x2 h)) (fl : (FlP x0 x3 h)) (ry : (RyC ρ c g0 h)) (nm : (NoM x1 h)) : Sat (sX7_readRanks_127 F k_10 k_40 h x0 x1 x2 x3 x5 x6) (ZQ (ZI ρ c (0) (1)) (fun o => (RyC ρ c g0 o.2) ∧ (NoM x1 o.2))) := by
  unfold sX7_readRanks_127 sX7_readRanks_157 sX7_readRanks_170
  refine s_br (fun c_1 => ?_) (fun c_1 => ?_)
  · have _ := c_1
    have i_f_2 : Rg (-1) (-1) (x5) := rg_eq c_1 (rg_b rfl : Rg (-1) (-1) ((- 1 : Int32)))
    refine s_br (fun c_3 => ?_) (fun c_3 => ?_)
    · have _ := c_3
      refine s_q (fun v_1q2 e_4 => ?_)
      have i_v_1q2 : Rg (0) (15) (v_1q2) := by rw [e_4]; exact (rg_add i_x3 i_x6 (by decide) : Rg (0) (15) (x3 + x6))
      have og_7 : Rg (0) (1201) (((hI h x0 2) + (1 : Int32))) := ⟨(by have : (((hI h x0 2) + (1 : Int32)) : Int32).toInt = ((hI h x0 2) : Int32).toInt + ((1 : Int32) : Int32).toInt := ti_add ((thI T r_x0 (k := 8) (i := 2) rfl : Rg (0) (1201) ((hI h x0 2))) : Rg (0) (1201) ((hI h x0 2))) ((rg_b rfl : Rg (1) (1) ((1 : Int32))) : Rg (1) (1) ((1 : Int32))) (by decide); have hq_ := ((thI T r_x0 (k := 8) (i := 2) rfl : Rg (0) (1201) ((hI h x0 2))) : Rg (0) (1201) ((hI h x0 2))); have := hq_.1; have := hq_.2; have : ((1 : Int32)).toInt = 1 := rfl; have := (i_x3 : Rg (0) (7) (x3)).1; have := (i_x3 : Rg (0) (7) (x3)).2; have := (i_f_2 : Rg (-1) (-1) (x5)).1; have := (i_f_2 : Rg (-1) (-1) (x5)).2; have := (i_x6 : Rg (0) (8) (x6)).1; have := (i_x6 : Rg (0) (8) (x6)).2; have := (i_x2 : Rg (0) (7) (x2)).1; have := (i_x2 : Rg (0) (7) (x2)).2; have := eq_i c_1; have : ((- 1 : Int32)).toInt = -1 := rfl; have := eq_i c_3; clear o_x1; omega), (by have : (((hI h x0 2) + (1 : Int32)) : Int32).toInt = ((hI h x0 2) : Int32).toInt + ((1 : Int32) : Int32).toInt := ti_add ((thI T r_x0 (k := 8) (i := 2) rfl : Rg (0) (1201) ((hI h x0 2))) : Rg (0) (1201) ((hI h x0 2))) ((rg_b rfl : Rg (1) (1) ((1 : Int32))) : Rg (1) (1) ((1 : Int32))) (by decide); have hq_ := ((thI T r_x0 (k := 8) (i := 2) rfl : Rg (0) (1201) ((hI h x0 2))) : Rg (0) (1201) ((hI h x0 2))); have := hq_.1; have := hq_.2; have : ((1 : Int32)).toInt = 1 := rfl; have := (i_x3 : Rg (0) (7) (x3)).1; have := (i_x3 : Rg (0) (7) (x3)).2; have := (i_f_2 : Rg (-1) (-1) (x5)).1; have := (i_f_2 : Rg (-1) (-1) (x5)).2; have := (i_x6 : Rg (0) (8) (x6)).1; have := (i_x6 : Rg (0) (8) (x6)).2; have := (i_x2 : Rg (0) (7) (x2)).1; have := (i_x2 : Rg (0) (7) (x2)).2; have := eq_i c_1; have : ((- 1 : Int32)).toInt = -1 := rfl; have := eq_i c_3; clear o_x1; omega)⟩
      refine s_hq (th_wI T r_x0 (k := 8) (lo := (0)) (hi := (1201)) rfl (og_7 : Rg (0) (1201) (((hI h x0 2) + (1 : Int32)))) (by decide) (by decide) (pm_a hA rfl)) (fun h_2q2 T_5 w_6 => ?_)
      have og_8 : Rg (0) (8) (v_1q2) := ⟨(by have := (i_v_1q2 : Rg (0) (15) (v_1q2)).1; have := (i_v_1q2 : Rg (0) (15) (v_1q2)).2; have : (v_1q2).toInt = (x3 + x6 : Int32).toInt := congrArg Int32.toInt e_4; have : (x3 + x6 : Int32).toInt = (x3 : Int32).toInt + (x6 : Int32).toInt := ti_add (i_x3 : Rg (0) (7) (x3)) (i_x6 : Rg (0) (8) (x6)) (by decide); have := (i_x3 : Rg (0) (7) (x3)).1; have := (i_x3 : Rg (0) (7) (x3)).2; have := (i_x6 : Rg (0) (8) (x6)).1; have := (i_x6 : Rg (0) (8) (x6)).2; have hq_ := ((thI T r_x0 (k := 8) (i := 2) rfl : Rg (0) (1201) ((hI h x0 2))) : Rg (0) (1201) ((hI h x0 2))); have := hq_.1; have := hq_.2; have := (i_f_2 : Rg (-1) (-1) (x5)).1; have := (i_f_2 : Rg (-1) (-1) (x5)).2; have := (i_x2 : Rg (0) (7) (x2)).1; have := (i_x2 : Rg (0) (7) (x2)).2; have := eq_i c_1; have : ((- 1 : Int32)).toInt = -1 := rfl; have := eq_i c_3; clear o_x1; omega), (by have := (i_v_1q2 : Rg (0) (15) (v_1q2)).1; have := (i_v_1q2 : Rg (0) (15) (v_1q2)).2; have : (v_1q2).toInt = (x3 + x6 : Int32).toInt := congrArg Int32.toInt e_4; have : (x3 + x6 : Int32).toInt = (x3 : Int32).toInt + (x6 : Int32).toInt := ti_add (i_x3 : Rg (0) (7) (x3)) (i_x6 : Rg (0) (8) (x6)) (by decide); have := (i_x3 : Rg (0) (7) (x3)).1; have := (i_x3 : Rg (0) (7) (x3)).2; have := (i_x6 : Rg (0) (8) (x6)).1; have := (i_x6 : Rg (0) (8) (x6)).2; have hq_ := ((thI T r_x0 (k := 8) (i := 2) rfl : Rg (0) (1201) ((hI h x0 2))) : Rg (0) (1201) ((hI h x0 2))); have := hq_.1; have := hq_.2; have := (i_f_2 : Rg (-1) (-1) (x5)).1; have := (i_f_2 : Rg (-1) (-1) (x5)).2; have := (i_x2 : Rg (0) (7) (x2)).1; have := (i_x2 : Rg (0) (7) (x2)).2; have := eq_i c_1; have : ((- 1 : Int32)).toInt = -1 := rfl; have := eq_i c_3; clear o_x1; omega)⟩
      have pf_9 : LwR ρ c h_2q2 := (lw_fr T  (fr1I (A := [(8, 2)]) r_x0 rfl w_6) (fun _ => rfl) (fun _ => rfl) (fun _ => rfl) lw)
      have pf_10 : RkP x0 x2 h_2q2 := (rk_fr T r_x0 (fr1I (A := [(8, 2)]) r_x0 rfl w_6) (fun _ => rfl) (fun _ => rfl) rk)
      have pf_11 : RyC ρ c g0 h_2q2 := (rc_fr T  (fr1I (A := [(8, 2)]) r_x0 rfl w_6) (fun _ => rfl) (fun _ _ => rfl) (fun _ => rfl) ry)
      have pf_12 : NoM x1 h_2q2 := (nm_fr T r_x1 (fr1I (A := [(8, 2)]) r_x0 rfl w_6) rfl (fun _ => rfl) nm)
      exact hk_40 o_x1 T_5 r_x0 r_x1 i_x2 og_8 hc_10 pf_9 pf_10 pf_11 pf_12 (show (0 ≤ (8 - (v_1q2).toInt) ∧ (8 - (v_1q2).toInt) < C_40) from (by have := (og_8 : Rg (0) (8) (v_1q2)).1; have := (og_8 : Rg (0) (8) (v_1q2)).2; have : (v_1q2).toInt = (x3 + x6 : Int32).toInt := congrArg Int32.toInt e_4; have : (x3 + x6 : Int32).toInt = (x3 : Int32).toInt + (x6 : Int32).toInt := ti_add (i_x3 : Rg (0) (7) (x3)) (i_x6 : Rg (0) (8) (x6)) (by decide); have := (i_x3 : Rg (0) (7) (x3)).1; have := (i_x3 : Rg (0) (7) (x3)).2; have := (i_x6 : Rg (0) (8) (x6)).1; have := (i_x6 : Rg (0) (8) (x6)).2; have hq_ := ((thI T r_x0 (k := 8) (i := 2) rfl : Rg (0) (1201) ((hI h x0 2))) : Rg (0) (1201) ((hI h x0 2))); have := hq_.1; have := hq_.2; have := (i_f_2 : Rg (-1) (-1) (x5)).1; have := (i_f_2 : Rg (-1) (-1) (x5)).2; have := (i_x2 : Rg (0) (7) (x2)).1; have := (i_x2 : Rg (0) (7) (x2)).2; have := eq_i c_1; have : ((- 1 : Int32)).toInt = -1 := rfl; have := eq_i c_3; clear o_x1; omega))
    · have _ := c_3
      exact (rc_ne c_3 i_f_2 (rg_b rfl : Rg (-1) (-1) ((- 1 : Int32)))).elim
  · have _ := c_1
    have i_f_13 : Rg (0) (23) (x5) := rg_nlo c_1 i_x5 (rg_b rfl : Rg (-1) (-1) ((- 1 : Int32)))
    obtain ⟨r_2, e_r_2, q_r_2⟩ := thR T r_x0 (k := 8) (i := 0) (k2 := 2) rfl (by decide)
    refine s_ref e_r_2 ?_
    refine s_ref e_r_2 ?_
    refine s_cVfq (S := fS [] [(w_x1, [(34, 999), (35, 999), (36, 999), (4, 7)])]) T (fs_sub pmA_n (fs_c (pmO_s hO_x1 rfl) fs_n)) (s_weq (zX3_put hF (pmO_e o_x1 (fs_o (.head _)) rfl) (th_in _ T) r_x1 (rg_m (rg_add (rg_mul i_x2 (thI T q_r_2 (k := 2) (i := 0) rfl : Rg (0) (8) ((hI h r_2 0))) (by decide) : Rg (0) (56) ((x2 * (hI h r_2 0)))) i_x3 (by decide) : Rg (0) (63) (((x2 * (hI h r_2 0)) + x3))) (by decide)) (rg_m i_f_13 (by decide)) (rg_m (thI T q_r_2 (k := 2) (i := 4) rfl : Rg (-1) (11) ((hI h r_2 4))) (by decide)) (fun _ => (lw_fr8 lw q_r_2 (kid_w T r_x0 (i := 0) rfl (by decide) e_r_2) T i_x2 i_x3 (rk _ e_r_2) (fl _ e_r_2) rfl)))) (fun o_4 T_14 f_o_4 p_o_4 => ?_)
    have eb_o_4 := p_o_4
    refine s_br (fun c_15 => ?_) (fun c_15 => ?_)
    · have _ := c_15
      exact (rc_eq c_15 i_f_13 (rg_b rfl : Rg (-1) (-1) ((- 1 : Int32))) (by decide)).elim
    · have _ := c_15
      refine s_q (fun v_1q6 e_16 => ?_)
      have i_v_1q6 : Rg (1) (8) (v_1q6) := by rw [e_16]; exact (rg_add i_x3 (rg_b rfl : Rg (1) (1) ((1 : Int32))) (by decide) : Rg (1) (8) (x3 + (1 : Int32)))
      have og_19 : Rg (0) (1201) (((hI o_4 x0 2) + (1 : Int32))) := ⟨(by have : (((hI o_4 x0 2) + (1 : Int32)) : Int32).toInt = ((hI o_4 x0 2) : Int32).toInt + ((1 : Int32) : Int32).toInt := ti_add ((thI T_14 r_x0 (k := 8) (i := 2) rfl : Rg (0) (1201) ((hI o_4 x0 2))) : Rg (0) (1201) ((hI o_4 x0 2))) ((rg_b rfl : Rg (1) (1) ((1 : Int32))) : Rg (1) (1) ((1 : Int32))) (by decide); have hq_ := ((thI T_14 r_x0 (k := 8) (i := 2) rfl : Rg (0) (1201) ((hI o_4 x0 2))) : Rg (0) (1201) ((hI o_4 x0 2))); have := hq_.1; have := hq_.2; have : (hI o_4 x0 2).toInt = (hI h x0 2).toInt := congrArg Int32.toInt (fr_I f_o_4 r_x0 (by decide) rfl rfl); have : ((1 : Int32)).toInt = 1 := rfl; have := (i_x3 : Rg (0) (7) (x3)).1; have := (i_x3 : Rg (0) (7) (x3)).2; have hq_ := ((thI T r_x0 (k := 8) (i := 2) rfl : Rg (0) (1201) ((hI h x0 2))) : Rg (0) (1201) ((hI h x0 2))); have := hq_.1; have := hq_.2; have := (i_f_13 : Rg (0) (23) (x5)).1; have := (i_f_13 : Rg (0) (23) (x5)).2; have := (i_x6 : Rg (0) (8) (x6)).1; have := (i_x6 : Rg (0) (8) (x6)).2; have := (i_x2 : Rg (0) (7) (x2)).1; have := (i_x2 : Rg (0) (7) (x2)).2; have := ne_i c_1; have : ((- 1 : Int32)).toInt = -1 := rfl; have := ne_i c_15; clear o_x1; omega), (by have : (((hI o_4 x0 2) + (1 : Int32)) : Int32).toInt = ((hI o_4 x0 2) : Int32).toInt + ((1 : Int32) : Int32).toInt := ti_add ((thI T_14 r_x0 (k := 8) (i := 2) rfl : Rg (0) (1201) ((hI o_4 x0 2))) : Rg (0) (1201) ((hI o_4 x0 2))) ((rg_b rfl : Rg (1) (1) ((1 : Int32))) : Rg (1) (1) ((1 : Int32))) (by decide); have hq_ := ((thI T_14 r_x0 (k := 8) (i := 2) rfl : Rg (0) (1201) ((hI o_4 x0 2))) : Rg (0) (1201) ((hI o_4 x0 2))); have := hq_.1; have := hq_.2; have : (hI o_4 x0 2).toInt = (hI h x0 2).toInt := congrArg Int32.toInt (fr_I f_o_4 r_x0 (by decide) rfl rfl); have : ((1 : Int32)).toInt = 1 := rfl; have := (i_x3 : Rg (0) (7) (x3)).1; have := (i_x3 : Rg (0) (7) (x3)).2; have hq_ := ((thI T r_x0 (k := 8) (i := 2) rfl : Rg (0) (1201) ((hI h x0 2))) : Rg (0) (1201) ((hI h x0 2))); have := hq_.1; have := hq_.2; have := (i_f_13 : Rg (0) (23) (x5)).1; have := (i_f_13 : Rg (0) (23) (x5)).2; have := (i_x6 : Rg (0) (8) (x6)).1; have := (i_x6 : Rg (0) (8) (x6)).2; have := (i_x2 : Rg (0) (7) (x2)).1; have := (i_x2 : Rg (0) (7) (x2)).2; have := ne_i c_1; have : ((- 1 : Int32)).toInt = -1 := rfl; have := ne_i c_15; clear o_x1; omega)⟩
      refine s_hq (th_wI T_14 r_x0 (k := 8) (lo := (0)) (hi := (1201)) rfl (og_19 : Rg (0) (1201) (((hI o_4 x0 2) + (1 : Int32)))) (by decide) (by decide) (pm_a hA rfl)) (fun h_2q6 T_17 w_18 => ?_)
      have pf_20 : LwR ρ c h_2q6 := (lw_fr T_14  (fr1I (A := [(8, 2)]) r_x0 rfl w_18) (fun _ => rfl) (fun _ => rfl) (fun _ => rfl) (lw_fr T  f_o_4 (fun _ => rfl) (fun _ => rfl) (fun _ => rfl) lw))
      have pf_21 : RkP x0 x2 h_2q6 := (rk_fr T_14 r_x0 (fr1I (A := [(8, 2)]) r_x0 rfl w_18) (fun _ => rfl) (fun _ => rfl) (rk_fr T r_x0 f_o_4 (fun _ => rfl) (fun _ => rfl) rk))
      have pf_22 : RyC ρ c g0 h_2q6 := (rc_fr T_14  (fr1I (A := [(8, 2)]) r_x0 rfl w_18) (fun _ => rfl) (fun _ _ => rfl) (fun _ => rfl) (rc_t ry (rc_put T r_x1 q_r_2 (th_id T r_x0 (k := 8) (i := 0) (w := 2102) e_r_2 rfl (by decide)) ((rg_m i_f_13 (by decide)) : Rg (-2) (23) (x5)) eb_o_4)))
      have pf_23 : NoM x1 h_2q6 := (nm_fr T_14 r_x1 (fr1I (A := [(8, 2)]) r_x0 rfl w_18) rfl (fun _ => rfl) (nm_put T r_x1 ((rg_m i_f_13 (by decide)) : Rg (-1) (23) (x5)) eb_o_4 nm))
      exact hk_40 o_x1 T_17 r_x0 r_x1 i_x2 (rg_m i_v_1q6 (by decide)) hc_10 pf_20 pf_21 pf_22 pf_23 (show (0 ≤ (8 - (v_1q6).toInt) ∧ (8 - (v_1q6).toInt) < C_40) from (by have := (i_v_1q6 : Rg (1) (8) (v_1q6)).1; have := (i_v_1q6 : Rg (1) (8) (v_1q6)).2; have : (v_1q6).toInt = (x3 + (1 : Int32) : Int32).toInt := congrArg Int32.toInt e_16; have : (x3 + (1 : Int32) : Int32).toInt = (x3 : Int32).toInt + ((1 : Int32) : Int32).toInt := ti_add (i_x3 : Rg (0) (7) (x3)) ((rg_b rfl : Rg (1) (1) ((1 : Int32))) : Rg (1) (1) ((1 : Int32))) (by decide); have := (i_x3 : Rg (0) (7) (x3)).1; have := (i_x3 : Rg (0) (7) (x3)).2; have : ((1 : Int32)).toInt = 1 := rfl; have hq_ := ((thI T r_x0 (k := 8) (i := 2) rfl : Rg (0) (1201) ((hI h x0 2))) : Rg (0) (1201) ((hI h x0 2))); have := hq_.1; have := hq_.2; have := (i_f_13 : Rg (0) (23) (x5)).1; have := (i_f_13 : Rg (0) (23) (x5)).2; have := (i_x6 : Rg (0) (8) (x6)).1; have := (i_x6 : Rg (0) (8) (x6)).2; have := (i_x2 : Rg (0) (7) (x2)).1; have := (i_x2 : Rg (0) (7) (x2)).2; have := ne_i c_1; have : ((- 1 : Int32)).toInt = -1 := rfl; have := ne_i c_15; clear o_x1; omega))
set_option maxRecDepth 20000 in
theorem zX7_readRanks_98 {ρ : Nat → Nat} {c : Cm} {F : Nat} {w_x1 : Nat} {g0 : Hp} (hF : 700000 ≤ F) {k_10 : Hp → Nat → Nat → Int32 → Option (Int32 × Hp)} {C_10 : Int} {k_40 : Hp → Nat → Nat → Int32 → Int32 → Option (Int32 × Hp)} {C_40 : Int} (hk_10 : ∀ {h : Hp} {x0 : Nat} {x1 : Nat} {x2 : Int32}, cw c x1 = w_x1 → TH ρ c h → ρ x0 = 8 → ρ x1 = 4 → Rg (-1) (7) (x2) → (LwR ρ c h) → (RkP x0 x2 h) → (RyC ρ c g0 h) → (NoM x1 h) → x2.toInt < C_10 → Sat (k_10 h x0 x1 x2) (ZQ (ZI ρ c (0) (1)) (fun o => (RyC ρ c g0 o.2) ∧ (NoM x1 o.2)))) (hk_40 : ∀ {h : Hp} {x0 : Nat} {x1 : Nat} {x2 : Int32} {x3 : Int32}, cw c x1 = w_x1 → TH ρ c h → ρ x0 = 8 → ρ x1 = 4 → Rg (0) (7) (x2) → Rg (0) (8) (x3) → x2.toInt ≤ C_10 → (LwR ρ c h) → (RkP x0 x2 h) → (RyC ρ c g0 h) → (NoM x1 h) → (0 ≤ (8 - x3.toInt) ∧ (8 - x3.toInt) < C_40) → Sat (k_40 h x0 x1 x2 x3) (ZQ (ZI ρ c (0) (1)) (fun o => (RyC ρ c g0 o.2) ∧ (NoM x1 o.2)))) (hA : pmA c [(8, 2)]) (hO_x1 : pmO c w_x1 [(34, 999), (35, 999), (36, 999), (4, 7)]) {h : Hp} {x0 : Nat} {x1 : Nat} {x2 : Int32} {x3 : Int32} {x5 : Int32} {t0 : Int32} (o_x1 : cw c x1 = w_x1) (T : TH ρ c h) (r_x0 : ρ x0 = 8) (r_x1 : ρ x1 = 4) (i_x2 : Rg (0) (7) (x2)) (i_x3 : Rg (0) (7) (x3)) (i_x5 : Rg (-1) (23) (x5)) (i_t0 : Rg (0) (8) (t0)) (hc_10 : x2.toInt ≤ C_10) (hc_40 : (0 ≤ (8 - x3.toInt) ∧ (8 - x3.toInt) ≤ C_40)) (ra : ((x5.toInt = -1 ∧ t0.toInt = 0) ∨ (hI h x0 2).toInt ≤ 1199)) (lw : (LwR ρ c h)) (rk : (RkP x0 x2 h)) (fl : (FlP x0 x3 h)) (ry : (RyC ρ c g0 h)) (nm : (NoM x1 h)) : Sat (sX7_readRanks_98 F k_10 k_40 h x0 x1 x2 x3 x5 t0) (ZQ (ZI ρ c (0) (1)) (fun o => (RyC ρ c g0 o.2) ∧ (NoM x1 o.2))) := by
  unfold sX7_readRanks_98 sX7_readRanks_125
  refine s_br (fun c_1 => ?_) (fun c_1 => ?_)
  · have _ := c_1
    have i_f_2 : Rg (-1) (-1) (x5) := rg_eq c_1 (rg_b rfl : Rg (-1) (-1) ((- 1 : Int32)))
    refine s_br (fun c_3 => ?_) (fun c_3 => ?_)
    · have _ := c_3
      have i_f_4 : Rg (0) (0) (t0) := rg_eq c_3 (rg_b rfl : Rg (0) (0) (0 : Int32))
      exact s_some ⟨⟨(T), (rg_m (rg_b rfl : Rg (0) (0) ((0 : Int32))) (by decide))⟩, ⟨ry, nm⟩⟩
    · have _ := c_3
      have i_f_5 : Rg (1) (8) (t0) := rg_nlo c_3 i_t0 (rg_b rfl : Rg (0) (0) (0 : Int32))
      obtain ⟨r_3, e_r_3, q_r_3⟩ := thR T r_x0 (k := 8) (i := 0) (k2 := 2) rfl (by decide)
      refine s_ref e_r_3 ?_
      refine s_br (fun c_6 => ?_) (fun c_6 => ?_)
      · have _ := c_6
        have i_f_7 : Rg (1) (8) ((x3 + t0)) := rg_le1 c_6 (rg_add i_x3 i_f_5 (by decide) : Rg (1) (15) ((x3 + t0))) (thI T q_r_3 (k := 2) (i := 0) rfl : Rg (0) (8) ((hI h r_3 0)))
        have i_f_8 : Rg (1) (8) ((hI h r_3 0)) := rg_le2 c_6 (rg_add i_x3 i_f_5 (by decide) : Rg (1) (15) ((x3 + t0))) (thI T q_r_3 (k := 2) (i := 0) rfl : Rg (0) (8) ((hI h r_3 0)))
        exact zX7_readRanks_127 hF @hk_10 @hk_40 (pmA_s hA rfl) (pmO_s hO_x1 rfl) o_x1 T r_x0 r_x1 i_x2 i_x3 (rg_m i_f_2 (by decide)) (rg_m i_f_5 (by decide)) hc_10 (show (0 ≤ (8 - (x3).toInt) ∧ (8 - (x3).toInt) ≤ C_40) from (by have := (i_x3 : Rg (0) (7) (x3)).1; have := (i_x3 : Rg (0) (7) (x3)).2; have hq_ := ((thI T r_x0 (k := 8) (i := 2) rfl : Rg (0) (1201) ((hI h x0 2))) : Rg (0) (1201) ((hI h x0 2))); have := hq_.1; have := hq_.2; have := (i_f_5 : Rg (1) (8) (t0)).1; have := (i_f_5 : Rg (1) (8) (t0)).2; have := (i_f_2 : Rg (-1) (-1) (x5)).1; have := (i_f_2 : Rg (-1) (-1) (x5)).2; have := (i_x2 : Rg (0) (7) (x2)).1; have := (i_x2 : Rg (0) (7) (x2)).2; have := eq_i c_1; have : ((- 1 : Int32)).toInt = -1 := rfl; have := ne_i c_3; have : (0 : Int32).toInt = 0 := rfl; have := le_i c_6; have : ((x3 + t0) : Int32).toInt = (x3 : Int32).toInt + (t0 : Int32).toInt := ti_add (i_x3 : Rg (0) (7) (x3)) (i_f_5 : Rg (1) (8) (t0)) (by decide); have := (i_f_8 : Rg (1) (8) ((hI h r_3 0))).1; have := (i_f_8 : Rg (1) (8) ((hI h r_3 0))).2; clear o_x1; omega)) (show (hI h x0 2).toInt ≤ 1199 ∧ ((x5).toInt = -1 → 1 ≤ (t0).toInt ∧ (x3).toInt + (t0).toInt ≤ 8) from (by have := (i_x3 : Rg (0) (7) (x3)).1; have := (i_x3 : Rg (0) (7) (x3)).2; have := (i_f_2 : Rg (-1) (-1) (x5)).1; have := (i_f_2 : Rg (-1) (-1) (x5)).2; have := (i_f_5 : Rg (1) (8) (t0)).1; have := (i_f_5 : Rg (1) (8) (t0)).2; have hq_ := ((thI T r_x0 (k := 8) (i := 2) rfl : Rg (0) (1201) ((hI h x0 2))) : Rg (0) (1201) ((hI h x0 2))); have := hq_.1; have := hq_.2; have := (i_x2 : Rg (0) (7) (x2)).1; have := (i_x2 : Rg (0) (7) (x2)).2; have := eq_i c_1; have : ((- 1 : Int32)).toInt = -1 := rfl; have := ne_i c_3; have : (0 : Int32).toInt = 0 := rfl; have := le_i c_6; have : ((x3 + t0) : Int32).toInt = (x3 : Int32).toInt + (t0 : Int32).toInt := ti_add (i_x3 : Rg (0) (7) (x3)) (i_f_5 : Rg (1) (8) (t0)) (by decide); have := (i_f_8 : Rg (1) (8) ((hI h r_3 0))).1; have := (i_f_8 : Rg (1) (8) ((hI h r_3 0))).2; clear o_x1; omega)) lw rk fl ry nm
      · have _ := c_6
        exact s_some ⟨⟨(T), (rg_m (rg_b rfl : Rg (0) (0) ((0 : Int32))) (by decide))⟩, ⟨ry, nm⟩⟩
  · have _ := c_1
    have i_f_9 : Rg (0) (23) (x5) := rg_nlo c_1 i_x5 (rg_b rfl : Rg (-1) (-1) ((- 1 : Int32)))
    exact zX7_readRanks_127 hF @hk_10 @hk_40 (pmA_s hA rfl) (pmO_s hO_x1 rfl) o_x1 T r_x0 r_x1 i_x2 i_x3 (rg_m i_f_9 (by decide)) i_t0 hc_10 (show (0 ≤ (8 - (x3).toInt) ∧ (8 - (x3).toInt) ≤ C_40) from (by have := (i_x3 : Rg (0) (7) (x3)).1; have := (i_x3 : Rg (0) (7) (x3)).2; have hq_ := ((thI T r_x0 (k := 8) (i := 2) rfl : Rg (0) (1201) ((hI h x0 2))) : Rg (0) (1201) ((hI h x0 2))); have := hq_.1; have := hq_.2; have := (i_t0 : Rg (0) (8) (t0)).1; have := (i_t0 : Rg (0) (8) (t0)).2; have := (i_f_9 : Rg (0) (23) (x5)).1; have := (i_f_9 : Rg (0) (23) (x5)).2; have := (i_x2 : Rg (0) (7) (x2)).1; have := (i_x2 : Rg (0) (7) (x2)).2; have := ne_i c_1; have : ((- 1 : Int32)).toInt = -1 := rfl; clear o_x1; omega)) (show (hI h x0 2).toInt ≤ 1199 ∧ ((x5).toInt = -1 → 1 ≤ (t0).toInt ∧ (x3).toInt + (t0).toInt ≤ 8) from (by have := (i_x3 : Rg (0) (7) (x3)).1; have := (i_x3 : Rg (0) (7) (x3)).2; have := (i_f_9 : Rg (0) (23) (x5)).1; have := (i_f_9 : Rg (0) (23) (x5)).2; have := (i_t0 : Rg (0) (8) (t0)).1; have := (i_t0 : Rg (0) (8) (t0)).2; have hq_ := ((thI T r_x0 (k := 8) (i := 2) rfl : Rg (0) (1201) ((hI h x0 2))) : Rg (0) (1201) ((hI h x0 2))); have := hq_.1; have := hq_.2; have := (i_x2 : Rg (0) (7) (x2)).1; have := (i_x2 : Rg (0) (7) (x2)).2; have := ne_i c_1; have : ((- 1 : Int32)).toInt = -1 := rfl; clear o_x1; omega)) lw rk fl ry nm
set_option maxRecDepth 20000 in
theorem zX7_readRanks_40 {ρ : Nat → Nat} {c : Cm} {F : Nat} {w_x1 : Nat} {g0 : Hp} (hF : 700000 ≤ F) (m5 : c.2.1 5 = true) {k_10 : Hp → Nat → Nat → Int32 → Option (Int32 × Hp)} {C_10 : Int} (hk_10 : ∀ {h : Hp} {x0 : Nat} {x1 : Nat} {x2 : Int32}, cw c x1 = w_x1 → TH ρ c h → ρ x0 = 8 → ρ x1 = 4 → Rg (-1) (7) (x2) → (LwR ρ c h) → (RkP x0 x2 h) → (RyC ρ c g0 h) → (NoM x1 h) → x2.toInt < C_10 → Sat (k_10 h x0 x1 x2) (ZQ (ZI ρ c (0) (1)) (fun o => (RyC ρ c g0 o.2) ∧ (NoM x1 o.2)))) (hA : pmA c [(8, 2)]) (hO_x1 : pmO c w_x1 [(34, 999), (35, 999), (36, 999), (4, 7)]) : ∀ (f : Nat) {h : Hp} {x0 : Nat} {x1 : Nat} {x2 : Int32} {x3 : Int32}, cw c x1 = w_x1 → TH ρ c h → ρ x0 = 8 → ρ x1 = 4 → Rg (0) (7) (x2) → Rg (0) (8) (x3) → x2.toInt ≤ C_10 → (LwR ρ c h) → (RkP x0 x2 h) → (RyC ρ c g0 h) → (NoM x1 h) → ((8 - x3.toInt) - (0)).toNat < f → Sat (sX7_readRanks_40 F k_10 f h x0 x1 x2 x3) (ZQ (ZI ρ c (0) (1)) (fun o => (RyC ρ c g0 o.2) ∧ (NoM x1 o.2))) := by
  intro f
  induction f with
  | zero => intros; omega
  | succ f ih =>
    intro h x0 x1 x2 x3 o_x1 T r_x0 r_x1 i_x2 i_x3 hc_10 lw rk ry nm hm
    rw [sX7_readRanks_40]
    unfold sX7_readRanks_97
    obtain ⟨C_40, hC_40⟩ : ∃ C : Int, C = (8 - x3.toInt) := ⟨_, rfl⟩
    have hk_40 : ∀ {h : Hp} {x0 : Nat} {x1 : Nat} {x2 : Int32} {x3 : Int32}, cw c x1 = w_x1 → TH ρ c h → ρ x0 = 8 → ρ x1 = 4 → Rg (0) (7) (x2) → Rg (0) (8) (x3) → x2.toInt ≤ C_10 → (LwR ρ c h) → (RkP x0 x2 h) → (RyC ρ c g0 h) → (NoM x1 h) → (0 ≤ (8 - x3.toInt) ∧ (8 - x3.toInt) < C_40) → Sat (sX7_readRanks_40 F k_10 f h x0 x1 x2 x3) (ZQ (ZI ρ c (0) (1)) (fun o => (RyC ρ c g0 o.2) ∧ (NoM x1 o.2))) := by
      intro h' x0' x1' x2' x3' o_x1' T' r_x0' r_x1' i_x2' i_x3' hc_10' lw' rk' ry' nm' hl
      exact ih o_x1' T' r_x0' r_x1' i_x2' i_x3' hc_10' lw' rk' ry' nm' (by omega)
    have hc_40 : (0 ≤ (8 - x3.toInt) ∧ (8 - x3.toInt) ≤ C_40) := (by have := (i_x3 : Rg (0) (8) (x3)).1; have := (i_x3 : Rg (0) (8) (x3)).2; have := (i_x2 : Rg (0) (7) (x2)).1; have := (i_x2 : Rg (0) (7) (x2)).2; clear o_x1; omega)
    obtain ⟨r_1, e_r_1, q_r_1⟩ := thR T r_x0 (k := 8) (i := 0) (k2 := 2) rfl (by decide)
    refine s_ref e_r_1 ?_
    refine s_br (fun c_1 => ?_) (fun c_1 => ?_)
    · have _ := c_1
      refine s_q (fun v_3 e_2 => ?_)
      have i_v_3 : Rg (-1) (6) (v_3) := by rw [e_2]; exact (rg_add i_x2 (rg_b rfl : Rg (-1) (-1) ((- 1 : Int32))) (by decide) : Rg (-1) (6) (x2 + (- 1 : Int32)))
      have m_3 : (v_3).toInt = x2.toInt - 1 := by rw [e_2]; exact rg_dec i_x2 (by decide)
      exact hk_10 o_x1 T r_x0 r_x1 (rg_m i_v_3 (by decide)) lw (rk_d rk i_x2 e_2) ry nm (by have := hc_10; omega)
    · have _ := c_1
      have i_f_4 : Rg (0) (7) (x3) := rg_lt1 (nle_lt c_1) i_x3 (thI T q_r_1 (k := 2) (i := 0) rfl : Rg (0) (8) ((hI h r_1 0)))
      have i_f_5 : Rg (1) (8) ((hI h r_1 0)) := rg_lt2 (nle_lt c_1) i_x3 (thI T q_r_1 (k := 2) (i := 0) rfl : Rg (0) (8) ((hI h r_1 0)))
      obtain ⟨r_4, e_r_4, q_r_4⟩ := thM T r_x0 (k := 8) (i := 1) (j := 5) (k2 := 10) rfl (by decide) rfl (by decide) m5
      refine s_ref e_r_4 ?_
      refine s_dP0 (zX9_byteAt hF T q_r_4 (rg_m (thI T r_x0 (k := 8) (i := 2) rfl : Rg (0) (1201) ((hI h x0 2))) (by decide))) (fun o_5 eb_o_5 e_o_5 i_o_5 p_o_5 => ?_)
      have T_6 := th_eq e_o_5 T
      refine s_ref (hr_e e_o_5 e_r_1) ?_
      refine s_dI0q (zX1_codeOf hF T_6 q_r_1 i_o_5) (fun o_7 eb_o_7 e_o_7 i_o_7 pp_o_7 => ?_)
      have pq_o_7_0 : o_7.1.toInt = -1 ∨ (0 ≤ ((o_5.1).toInt) ∧ ((o_5.1).toInt) ≤ 255) := pp_o_7
      have T_7 := th_eq e_o_7 T_6
      refine s_br (fun c_8 => ?_) (fun c_8 => ?_)
      · have _ := c_8
        have i_f_9 : Rg (-1) (48) (o_5.1) := rg_lt1 c_8 i_o_5 (rg_b rfl : Rg (49) (49) ((49 : Int32)))
        have pf_10 : LwR ρ c o_7.2 := (by rw [e_o_7]; exact (by rw [e_o_5]; exact lw))
        have pf_11 : RkP x0 x2 o_7.2 := (by rw [e_o_7]; exact (by rw [e_o_5]; exact rk))
        have pf_12 : FlP x0 x3 o_7.2 := (by rw [e_o_7]; exact (by rw [e_o_5]; exact (fl_c e_r_1 c_1)))
        have pf_13 : RyC ρ c g0 o_7.2 := (by rw [e_o_7]; exact (by rw [e_o_5]; exact ry))
        have pf_14 : NoM x1 o_7.2 := (by rw [e_o_7]; exact (by rw [e_o_5]; exact nm))
        exact zX7_readRanks_98 hF @hk_10 @hk_40 (pmA_s hA rfl) (pmO_s hO_x1 rfl) o_x1 T_7 r_x0 r_x1 i_x2 i_f_4 i_o_7 (rg_m (rg_b rfl : Rg (0) (0) ((0 : Int32))) (by decide)) hc_10 (show (0 ≤ (8 - (x3).toInt) ∧ (8 - (x3).toInt) ≤ C_40) from (by have := (i_f_4 : Rg (0) (7) (x3)).1; have := (i_f_4 : Rg (0) (7) (x3)).2; have := (i_f_9 : Rg (-1) (48) (o_5.1)).1; have := (i_f_9 : Rg (-1) (48) (o_5.1)).2; have := (i_o_7 : Rg (-1) (23) (o_7.1)).1; have := (i_o_7 : Rg (-1) (23) (o_7.1)).2; have := (i_x2 : Rg (0) (7) (x2)).1; have := (i_x2 : Rg (0) (7) (x2)).2; have : (o_5.1).toInt = -1 ∨ (0 ≤ ((hI h x0 2)).toInt ∧ ((hI h x0 2)).toInt ≤ 1199) := p1_or p_o_5; have hq_ := ((thI T r_x0 (k := 8) (i := 2) rfl : Rg (0) (1201) ((hI h x0 2))) : Rg (0) (1201) ((hI h x0 2))); have := hq_.1; have := hq_.2; have := nle_i c_1; have := (i_f_5 : Rg (1) (8) ((hI h r_1 0))).1; have := (i_f_5 : Rg (1) (8) ((hI h r_1 0))).2; have := lt_i c_8; have : ((49 : Int32)).toInt = 49 := rfl; clear o_x1; omega)) (show ((o_7.1).toInt = -1 ∧ ((0 : Int32)).toInt = 0) ∨ (hI o_7.2 x0 2).toInt ≤ 1199 from (by have := (i_f_4 : Rg (0) (7) (x3)).1; have := (i_f_4 : Rg (0) (7) (x3)).2; have := (i_o_7 : Rg (-1) (23) (o_7.1)).1; have := (i_o_7 : Rg (-1) (23) (o_7.1)).2; have : ((0 : Int32)).toInt = 0 := rfl; have hq_ := ((thI T_7 r_x0 (k := 8) (i := 2) rfl : Rg (0) (1201) ((hI o_7.2 x0 2))) : Rg (0) (1201) ((hI o_7.2 x0 2))); have := hq_.1; have := hq_.2; have : (hI o_7.2 x0 2).toInt = (hI o_5.2 x0 2).toInt := congrArg Int32.toInt (he_e e_o_7); have : (hI o_5.2 x0 2).toInt = (hI h x0 2).toInt := congrArg Int32.toInt (he_e e_o_5); have := (i_f_9 : Rg (-1) (48) (o_5.1)).1; have := (i_f_9 : Rg (-1) (48) (o_5.1)).2; have := (i_x2 : Rg (0) (7) (x2)).1; have := (i_x2 : Rg (0) (7) (x2)).2; have : (o_5.1).toInt = -1 ∨ (0 ≤ ((hI h x0 2)).toInt ∧ ((hI h x0 2)).toInt ≤ 1199) := p1_or p_o_5; have hq_ := ((thI T r_x0 (k := 8) (i := 2) rfl : Rg (0) (1201) ((hI h x0 2))) : Rg (0) (1201) ((hI h x0 2))); have := hq_.1; have := hq_.2; have := nle_i c_1; have := (i_f_5 : Rg (1) (8) ((hI h r_1 0))).1; have := (i_f_5 : Rg (1) (8) ((hI h r_1 0))).2; have := lt_i c_8; have : ((49 : Int32)).toInt = 49 := rfl; clear o_x1; omega)) pf_10 pf_11 pf_12 pf_13 pf_14
      · have _ := c_8
        have i_f_15 : Rg (49) (255) (o_5.1) := rg_le2 (nlt_le c_8) (rg_b rfl : Rg (49) (49) ((49 : Int32))) i_o_5
        have p_f_16 := p_o_5 (fun q => rc_eq q i_f_15 (rg_b rfl : Rg (-1) (-1) (-1 : Int32)) (by decide))
        refine s_br (fun c_17 => ?_) (fun c_17 => ?_)
        · have _ := c_17
          have i_f_18 : Rg (57) (255) (o_5.1) := rg_lt2 c_17 (rg_b rfl : Rg (56) (56) ((56 : Int32))) i_f_15
          have pf_19 : LwR ρ c o_7.2 := (by rw [e_o_7]; exact (by rw [e_o_5]; exact lw))
          have pf_20 : RkP x0 x2 o_7.2 := (by rw [e_o_7]; exact (by rw [e_o_5]; exact rk))
          have pf_21 : FlP x0 x3 o_7.2 := (by rw [e_o_7]; exact (by rw [e_o_5]; exact (fl_c e_r_1 c_1)))
          have pf_22 : RyC ρ c g0 o_7.2 := (by rw [e_o_7]; exact (by rw [e_o_5]; exact ry))
          have pf_23 : NoM x1 o_7.2 := (by rw [e_o_7]; exact (by rw [e_o_5]; exact nm))
          exact zX7_readRanks_98 hF @hk_10 @hk_40 (pmA_s hA rfl) (pmO_s hO_x1 rfl) o_x1 T_7 r_x0 r_x1 i_x2 i_f_4 i_o_7 (rg_m (rg_b rfl : Rg (0) (0) ((0 : Int32))) (by decide)) hc_10 (show (0 ≤ (8 - (x3).toInt) ∧ (8 - (x3).toInt) ≤ C_40) from (by have := (i_f_4 : Rg (0) (7) (x3)).1; have := (i_f_4 : Rg (0) (7) (x3)).2; have := (i_f_18 : Rg (57) (255) (o_5.1)).1; have := (i_f_18 : Rg (57) (255) (o_5.1)).2; have := (i_o_7 : Rg (-1) (23) (o_7.1)).1; have := (i_o_7 : Rg (-1) (23) (o_7.1)).2; have := (i_x2 : Rg (0) (7) (x2)).1; have := (i_x2 : Rg (0) (7) (x2)).2; have := nle_i c_1; have := (i_f_5 : Rg (1) (8) ((hI h r_1 0))).1; have := (i_f_5 : Rg (1) (8) ((hI h r_1 0))).2; have := nlt_i c_8; have : ((49 : Int32)).toInt = 49 := rfl; have := lt_i c_17; have : ((56 : Int32)).toInt = 56 := rfl; clear o_x1; omega)) (show ((o_7.1).toInt = -1 ∧ ((0 : Int32)).toInt = 0) ∨ (hI o_7.2 x0 2).toInt ≤ 1199 from (by have := (i_f_4 : Rg (0) (7) (x3)).1; have := (i_f_4 : Rg (0) (7) (x3)).2; have := (i_o_7 : Rg (-1) (23) (o_7.1)).1; have := (i_o_7 : Rg (-1) (23) (o_7.1)).2; have : ((0 : Int32)).toInt = 0 := rfl; have hq_ := (((rg_he e_o_7 (rg_he e_o_5 p_f_16)) : Rg (0) (1199) ((hI o_7.2 x0 2))) : Rg (0) (1199) ((hI o_7.2 x0 2))); have := hq_.1; have := hq_.2; have : (hI o_7.2 x0 2).toInt = (hI o_5.2 x0 2).toInt := congrArg Int32.toInt (he_e e_o_7); have : (hI o_5.2 x0 2).toInt = (hI h x0 2).toInt := congrArg Int32.toInt (he_e e_o_5); have := (i_f_18 : Rg (57) (255) (o_5.1)).1; have := (i_f_18 : Rg (57) (255) (o_5.1)).2; have := (i_x2 : Rg (0) (7) (x2)).1; have := (i_x2 : Rg (0) (7) (x2)).2; have := (p_f_16 : Rg (0) (1199) ((hI h x0 2))).1; have := (p_f_16 : Rg (0) (1199) ((hI h x0 2))).2; have := nle_i c_1; have := (i_f_5 : Rg (1) (8) ((hI h r_1 0))).1; have := (i_f_5 : Rg (1) (8) ((hI h r_1 0))).2; have := nlt_i c_8; have : ((49 : Int32)).toInt = 49 := rfl; have := lt_i c_17; have : ((56 : Int32)).toInt = 56 := rfl; clear o_x1; omega)) pf_19 pf_20 pf_21 pf_22 pf_23
        · have _ := c_17
          have i_f_24 : Rg (49) (56) (o_5.1) := rg_le1 (nlt_le c_17) i_f_15 (rg_b rfl : Rg (56) (56) ((56 : Int32)))
          have pf_25 : LwR ρ c o_7.2 := (by rw [e_o_7]; exact (by rw [e_o_5]; exact lw))
          have pf_26 : RkP x0 x2 o_7.2 := (by rw [e_o_7]; exact (by rw [e_o_5]; exact rk))
          have pf_27 : FlP x0 x3 o_7.2 := (by rw [e_o_7]; exact (by rw [e_o_5]; exact (fl_c e_r_1 c_1)))
          have pf_28 : RyC ρ c g0 o_7.2 := (by rw [e_o_7]; exact (by rw [e_o_5]; exact ry))
          have pf_29 : NoM x1 o_7.2 := (by rw [e_o_7]; exact (by rw [e_o_5]; exact nm))
          exact zX7_readRanks_98 hF @hk_10 @hk_40 (pmA_s hA rfl) (pmO_s hO_x1 rfl) o_x1 T_7 r_x0 r_x1 i_x2 i_f_4 i_o_7 (rg_m (rg_sub i_f_24 (rg_b rfl : Rg (48) (48) ((48 : Int32))) (by decide) : Rg (1) (8) ((o_5.1 - (48 : Int32)))) (by decide)) hc_10 (show (0 ≤ (8 - (x3).toInt) ∧ (8 - (x3).toInt) ≤ C_40) from (by have := (i_f_4 : Rg (0) (7) (x3)).1; have := (i_f_4 : Rg (0) (7) (x3)).2; have := (i_f_24 : Rg (49) (56) (o_5.1)).1; have := (i_f_24 : Rg (49) (56) (o_5.1)).2; have := (i_o_7 : Rg (-1) (23) (o_7.1)).1; have := (i_o_7 : Rg (-1) (23) (o_7.1)).2; have := (i_x2 : Rg (0) (7) (x2)).1; have := (i_x2 : Rg (0) (7) (x2)).2; have := nle_i c_1; have := (i_f_5 : Rg (1) (8) ((hI h r_1 0))).1; have := (i_f_5 : Rg (1) (8) ((hI h r_1 0))).2; have := nlt_i c_8; have : ((49 : Int32)).toInt = 49 := rfl; have := nlt_i c_17; have : ((56 : Int32)).toInt = 56 := rfl; clear o_x1; omega)) (show ((o_7.1).toInt = -1 ∧ ((o_5.1 - (48 : Int32))).toInt = 0) ∨ (hI o_7.2 x0 2).toInt ≤ 1199 from (by have := (i_f_4 : Rg (0) (7) (x3)).1; have := (i_f_4 : Rg (0) (7) (x3)).2; have := (i_o_7 : Rg (-1) (23) (o_7.1)).1; have := (i_o_7 : Rg (-1) (23) (o_7.1)).2; have : ((o_5.1 - (48 : Int32)) : Int32).toInt = (o_5.1 : Int32).toInt - ((48 : Int32) : Int32).toInt := ti_sub (i_f_24 : Rg (49) (56) (o_5.1)) ((rg_b rfl : Rg (48) (48) ((48 : Int32))) : Rg (48) (48) ((48 : Int32))) (by decide); have := (i_f_24 : Rg (49) (56) (o_5.1)).1; have := (i_f_24 : Rg (49) (56) (o_5.1)).2; have : ((48 : Int32)).toInt = 48 := rfl; have hq_ := (((rg_he e_o_7 (rg_he e_o_5 p_f_16)) : Rg (0) (1199) ((hI o_7.2 x0 2))) : Rg (0) (1199) ((hI o_7.2 x0 2))); have := hq_.1; have := hq_.2; have : (hI o_7.2 x0 2).toInt = (hI o_5.2 x0 2).toInt := congrArg Int32.toInt (he_e e_o_7); have : (hI o_5.2 x0 2).toInt = (hI h x0 2).toInt := congrArg Int32.toInt (he_e e_o_5); have := (i_x2 : Rg (0) (7) (x2)).1; have := (i_x2 : Rg (0) (7) (x2)).2; have := (p_f_16 : Rg (0) (1199) ((hI h x0 2))).1; have := (p_f_16 : Rg (0) (1199) ((hI h x0 2))).2; have := nle_i c_1; have := (i_f_5 : Rg (1) (8) ((hI h r_1 0))).1; have := (i_f_5 : Rg (1) (8) ((hI h r_1 0))).2; have := nlt_i c_8; have : ((49 : Int32)).toInt = 49 := rfl; have := nlt_i c_17; have : ((56 : Int32)).toInt = 56 := rfl; clear o_x1; omega)) pf_25 pf_26 pf_27 pf_28 pf_29
set_option maxRecDepth 20000 in
theorem zX7_readRanks_10 {ρ : Nat → Nat} {c : Cm} {F : Nat} {w_x1 : Nat} {g0 : Hp} (hF : 700000 ≤ F) (m5 : c.2.1 5 = true) (hA : pmA c [(8, 2)]) (hO_x1 : pmO c w_x1 [(34, 999), (35, 999), (36, 999), (4, 7)]) : ∀ (f : Nat) {h : Hp} {x0 : Nat} {x1 : Nat} {x2 : Int32}, cw c x1 = w_x1 → TH ρ c h → ρ x0 = 8 → ρ x1 = 4 → Rg (-1) (7) (x2) → (LwR ρ c h) → (RkP x0 x2 h) → (RyC ρ c g0 h) → (NoM x1 h) → (x2.toInt - (-1)).toNat < f → Sat (sX7_readRanks_10 F f h x0 x1 x2) (ZQ (ZI ρ c (0) (1)) (fun o => (RyC ρ c g0 o.2) ∧ (NoM x1 o.2))) := by
  intro f
  induction f with
  | zero => intros; omega
  | succ f ih =>
    intro h x0 x1 x2 o_x1 T r_x0 r_x1 i_x2 lw rk ry nm hm
    rw [sX7_readRanks_10]
    unfold sX7_readRanks_38
    obtain ⟨C_10, hC_10⟩ : ∃ C : Int, C = x2.toInt := ⟨_, rfl⟩
    have hk_10 : ∀ {h : Hp} {x0 : Nat} {x1 : Nat} {x2 : Int32}, cw c x1 = w_x1 → TH ρ c h → ρ x0 = 8 → ρ x1 = 4 → Rg (-1) (7) (x2) → (LwR ρ c h) → (RkP x0 x2 h) → (RyC ρ c g0 h) → (NoM x1 h) → x2.toInt < C_10 → Sat (sX7_readRanks_10 F f h x0 x1 x2) (ZQ (ZI ρ c (0) (1)) (fun o => (RyC ρ c g0 o.2) ∧ (NoM x1 o.2))) := by
      intro h' x0' x1' x2' o_x1' T' r_x0' r_x1' i_x2' lw' rk' ry' nm' hl
      exact ih o_x1' T' r_x0' r_x1' i_x2' lw' rk' ry' nm' (by have := i_x2'.1; have := i_x2'.2; omega)
    have hc_10 : x2.toInt ≤ C_10 := by omega
    refine s_br (fun c_1 => ?_) (fun c_1 => ?_)
    · have _ := c_1
      have i_f_2 : Rg (-1) (-1) (x2) := rg_lt1 c_1 i_x2 (rg_b rfl : Rg (0) (0) (0 : Int32))
      exact s_some ⟨⟨(T), (rg_m (rg_b rfl : Rg (1) (1) ((1 : Int32))) (by decide))⟩, ⟨ry, nm⟩⟩
    · have _ := c_1
      have i_f_3 : Rg (0) (7) (x2) := rg_le2 (nlt_le c_1) (rg_b rfl : Rg (0) (0) (0 : Int32)) i_x2
      obtain ⟨r_2, e_r_2, q_r_2⟩ := thR T r_x0 (k := 8) (i := 0) (k2 := 2) rfl (by decide)
      refine s_ref e_r_2 ?_
      refine s_br (fun c_4 => ?_) (fun c_4 => ?_)
      · have _ := c_4
        exact zX7_readRanks_40 hF m5 @hk_10 (pmA_s hA rfl) (pmO_s hO_x1 rfl) F o_x1 T r_x0 r_x1 i_f_3 (rg_m (rg_b rfl : Rg (0) (0) ((0 : Int32))) (by decide)) hc_10 lw rk ry nm (show ((8 - ((0 : Int32)).toInt) - 0).toNat < F from (by have := (i_f_3 : Rg (0) (7) (x2)).1; have := (i_f_3 : Rg (0) (7) (x2)).2; have : ((0 : Int32)).toInt = 0 := rfl; have := nlt_i c_1; have : (0 : Int32).toInt = 0 := rfl; have := le_i c_4; have : (((hI h r_2 1) - (1 : Int32)) : Int32).toInt = ((hI h r_2 1) : Int32).toInt - ((1 : Int32) : Int32).toInt := ti_sub ((thI T q_r_2 (k := 2) (i := 1) rfl : Rg (0) (8) ((hI h r_2 1))) : Rg (0) (8) ((hI h r_2 1))) ((rg_b rfl : Rg (1) (1) ((1 : Int32))) : Rg (1) (1) ((1 : Int32))) (by decide); have hq_ := ((thI T q_r_2 (k := 2) (i := 1) rfl : Rg (0) (8) ((hI h r_2 1))) : Rg (0) (8) ((hI h r_2 1))); have := hq_.1; have := hq_.2; have : ((1 : Int32)).toInt = 1 := rfl; clear o_x1; omega))
      · have _ := c_4
        have i_f_5 : Rg (0) (6) (x2) := rg_lt1 (nle_lt c_4) i_f_3 (rg_sub (thI T q_r_2 (k := 2) (i := 1) rfl : Rg (0) (8) ((hI h r_2 1))) (rg_b rfl : Rg (1) (1) ((1 : Int32))) (by decide) : Rg (-1) (7) (((hI h r_2 1) - (1 : Int32))))
        have i_f_6 : Rg (1) (7) (((hI h r_2 1) - (1 : Int32))) := rg_lt2 (nle_lt c_4) i_f_3 (rg_sub (thI T q_r_2 (k := 2) (i := 1) rfl : Rg (0) (8) ((hI h r_2 1))) (rg_b rfl : Rg (1) (1) ((1 : Int32))) (by decide) : Rg (-1) (7) (((hI h r_2 1) - (1 : Int32))))
        have i_f_7 : Rg (2) (8) ((hI h r_2 1)) := rg_bks (i_f_6 : Rg (1) (7) (((hI h r_2 1) - (1 : Int32)))) (thI T q_r_2 (k := 2) (i := 1) rfl : Rg (0) (8) ((hI h r_2 1))) (rg_b rfl : Rg (1) (1) ((1 : Int32))) (by decide)
        refine s_cIf (S := fS [(8, 2)] []) T (fs_sub (pmA_s hA rfl) fs_n) (zX7_takeByte hF (cat_m m5) fs_a (th_in _ T) r_x0 (rg_m (rg_b rfl : Rg (47) (47) ((47 : Int32))) (by decide))) (fun o_4 T_8 i_o_4 f_o_4 => ?_)
        refine s_br (fun c_9 => ?_) (fun c_9 => ?_)
        · have _ := c_9
          have i_f_10 : Rg (0) (0) (o_4.1) := rg_eq c_9 (rg_b rfl : Rg (0) (0) (0 : Int32))
          have pf_11 : RyC ρ c g0 o_4.2 := (rc_fr T  f_o_4 (fun _ => rfl) (fun _ _ => rfl) (fun _ => rfl) ry)
          have pf_12 : NoM x1 o_4.2 := (nm_fr T r_x1 f_o_4 rfl (fun _ => rfl) nm)
          exact s_some ⟨⟨(T_8), (rg_m (rg_b rfl : Rg (0) (0) ((0 : Int32))) (by decide))⟩, ⟨pf_11, pf_12⟩⟩
        · have _ := c_9
          have i_f_13 : Rg (1) (1) (o_4.1) := rg_nlo c_9 i_o_4 (rg_b rfl : Rg (0) (0) (0 : Int32))
          have pf_14 : LwR ρ c o_4.2 := (lw_fr T  f_o_4 (fun _ => rfl) (fun _ => rfl) (fun _ => rfl) lw)
          have pf_15 : RkP x0 x2 o_4.2 := (rk_fr T r_x0 f_o_4 (fun _ => rfl) (fun _ => rfl) rk)
          have pf_16 : RyC ρ c g0 o_4.2 := (rc_fr T  f_o_4 (fun _ => rfl) (fun _ _ => rfl) (fun _ => rfl) ry)
          have pf_17 : NoM x1 o_4.2 := (nm_fr T r_x1 f_o_4 rfl (fun _ => rfl) nm)
          exact zX7_readRanks_40 hF m5 @hk_10 (pmA_s hA rfl) (pmO_s hO_x1 rfl) F o_x1 T_8 r_x0 r_x1 (rg_m i_f_5 (by decide)) (rg_m (rg_b rfl : Rg (0) (0) ((0 : Int32))) (by decide)) hc_10 pf_14 pf_15 pf_16 pf_17 (show ((8 - ((0 : Int32)).toInt) - 0).toNat < F from (by have := (i_f_5 : Rg (0) (6) (x2)).1; have := (i_f_5 : Rg (0) (6) (x2)).2; have : ((0 : Int32)).toInt = 0 := rfl; have := nlt_i c_1; have : (0 : Int32).toInt = 0 := rfl; have := nle_i c_4; have : (((hI h r_2 1) - (1 : Int32)) : Int32).toInt = ((hI h r_2 1) : Int32).toInt - ((1 : Int32) : Int32).toInt := ti_sub (i_f_7 : Rg (2) (8) ((hI h r_2 1))) ((rg_b rfl : Rg (1) (1) ((1 : Int32))) : Rg (1) (1) ((1 : Int32))) (by decide); have := (i_f_7 : Rg (2) (8) ((hI h r_2 1))).1; have := (i_f_7 : Rg (2) (8) ((hI h r_2 1))).2; have : ((1 : Int32)).toInt = 1 := rfl; clear o_x1; omega))
set_option maxRecDepth 20000 in
theorem zX7_readRanks {ρ : Nat → Nat} {c : Cm} {F : Nat} {w_x1 : Nat} (hF : 700000 ≤ F) (m5 : c.2.1 5 = true) (hA : pmA c [(8, 2)]) (hO_x1 : pmO c w_x1 [(34, 999), (35, 999), (36, 999), (4, 7)]) {h : Hp} {x0 : Nat} {x1 : Nat} (o_x1 : cw c x1 = w_x1) (T : TH ρ c h) (r_x0 : ρ x0 = 8) (r_x1 : ρ x1 = 4) (lw : (LwR ρ c h)) (nm : (NoM x1 h)) : Sat (sX7_readRanks F h x0 x1) (ZQ (ZI ρ c (0) (1)) (fun o => (RyC ρ c h o.2) ∧ (NoM x1 o.2))) := by
  unfold sX7_readRanks 
  obtain ⟨r_1, e_r_1, q_r_1⟩ := thR T r_x0 (k := 8) (i := 0) (k2 := 2) rfl (by decide)
  refine s_ref e_r_1 ?_
  refine s_q (fun v_2 e_1 => ?_)
  have i_v_2 : Rg (-1) (7) (v_2) := by rw [e_1]; exact (rg_sub (thI T q_r_1 (k := 2) (i := 1) rfl : Rg (0) (8) ((hI h r_1 1))) (rg_b rfl : Rg (1) (1) ((1 : Int32))) (by decide) : Rg (-1) (7) ((hI h r_1 1) - (1 : Int32)))
  have m_2 : Rg (-1) (7) (v_2) := i_v_2
  exact zX7_readRanks_10 hF m5 (pmA_s hA rfl) (pmO_s hO_x1 rfl) F o_x1 T r_x0 r_x1 i_v_2 lw (rk_0 T q_r_1 e_r_1 e_1) rc_0 nm (by have := m_2.1; have := m_2.2; omega)
set_option maxRecDepth 20000 in
theorem zX7_readRights_41 {ρ : Nat → Nat} {c : Cm} {F : Nat} {w_x1 : Nat} (hF : 700000 ≤ F) (m5 : c.2.1 5 = true) {k_15 : Hp → Nat → Nat → Int32 → Int32 → Option (Int32 × Hp)} {C_15 : Int} (hk_15 : ∀ {h : Hp} {x0 : Nat} {x1 : Nat} {x2 : Int32} {x3 : Int32}, cw c x1 = w_x1 → TH ρ c h → ρ x0 = 8 → ρ x1 = 4 → Rg (-1) (63) (x2) → Rg (0) (65) (x3) → C_15 < x3.toInt → Sat (k_15 h x0 x1 x2 x3) (ZI ρ c (0) (1))) (hA : pmA c [(8, 2)]) (hO_x1 : pmO c w_x1 [(4, 8)]) {h : Hp} {x0 : Nat} {x1 : Nat} {x2 : Int32} {x3 : Int32} (o_x1 : cw c x1 = w_x1) (T : TH ρ c h) (r_x0 : ρ x0 = 8) (r_x1 : ρ x1 = 4) (i_x2 : Rg (-1) (63) (x2)) (i_x3 : Rg (0) (64) (x3)) (hc_15 : C_15 ≤ x3.toInt) : Sat (sX7_readRights_41 F k_15 h x0 x1 x2 x3) (ZI ρ c (0) (1)) := by
  unfold sX7_readRights_41 
  refine s_q (fun v_1 e_1 => ?_)
  have i_v_1 : Rg (0) (1201) (v_1) := by rw [e_1]; exact (thI T r_x0 (k := 8) (i := 2) rfl : Rg (0) (1201) (hI h x0 2))
  refine s_cI (zX7_readSquare hF m5 (pmA_s hA rfl) T r_x0) (fun o_2 T_2 i_o_2 => ?_)
  refine s_br (fun c_3 => ?_) (fun c_3 => ?_)
  · have _ := c_3
    have i_f_4 : Rg (-1) (-1) (o_2.1) := rg_eq c_3 (rg_b rfl : Rg (-1) (-1) ((- 1 : Int32)))
    exact s_some ⟨(T_2), (rg_m (rg_b rfl : Rg (0) (0) ((0 : Int32))) (by decide))⟩
  · have _ := c_3
    have i_f_5 : Rg (0) (63) (o_2.1) := rg_nlo c_3 i_o_2 (rg_b rfl : Rg (-1) (-1) ((- 1 : Int32)))
    refine s_br (fun c_6 => ?_) (fun c_6 => ?_)
    · have _ := c_6
      have i_f_7 : Rg (-1) (62) (x2) := rg_lt1 c_6 i_x2 i_f_5
      refine s_hq (th_wJ T_2 r_x1 (k := 4) (by decide) (pm_o hO_x1 o_x1 rfl)) (fun h_5 T_8 w_9 => ?_)
      refine s_q (fun v_6 e_10 => ?_)
      have i_v_6 : Rg (1) (65) (v_6) := by rw [e_10]; exact (rg_add i_x3 (rg_b rfl : Rg (1) (1) ((1 : Int32))) (by decide) : Rg (1) (65) (x3 + (1 : Int32)))
      have m_11 : (v_6).toInt = x3.toInt + 1 := by rw [e_10]; exact rg_inc i_x3 (by decide)
      exact hk_15 o_x1 T_8 r_x0 r_x1 (rg_m i_f_5 (by decide)) (rg_m i_v_6 (by decide)) (by have := hc_15; omega)
    · have _ := c_6
      have i_f_12 : Rg (0) (63) (x2) := rg_le2 (nlt_le c_6) i_f_5 i_x2
      refine s_hq (th_wI T_2 r_x0 (k := 8) (lo := (0)) (hi := (1201)) rfl (i_v_1 : Rg (0) (1201) (v_1)) (by decide) (by decide) (pm_a hA rfl)) (fun h_7 T_13 w_14 => ?_)
      exact s_some ⟨(T_13), (rg_m (rg_b rfl : Rg (0) (0) ((0 : Int32))) (by decide))⟩
set_option maxRecDepth 20000 in
theorem zX7_readRights_15 {ρ : Nat → Nat} {c : Cm} {F : Nat} {w_x1 : Nat} (hF : 700000 ≤ F) (m5 : c.2.1 5 = true) (hA : pmA c [(8, 2)]) (hO_x1 : pmO c w_x1 [(4, 8)]) : ∀ (f : Nat) {h : Hp} {x0 : Nat} {x1 : Nat} {x2 : Int32} {x3 : Int32}, cw c x1 = w_x1 → TH ρ c h → ρ x0 = 8 → ρ x1 = 4 → Rg (-1) (63) (x2) → Rg (0) (65) (x3) → (65 - x3.toInt).toNat < f → Sat (sX7_readRights_15 F f h x0 x1 x2 x3) (ZI ρ c (0) (1)) := by
  intro f
  induction f with
  | zero => intros; omega
  | succ f ih =>
    intro h x0 x1 x2 x3 o_x1 T r_x0 r_x1 i_x2 i_x3 hm
    rw [sX7_readRights_15]
    unfold sX7_readRights_97
    obtain ⟨C_15, hC_15⟩ : ∃ C : Int, C = x3.toInt := ⟨_, rfl⟩
    have hk_15 : ∀ {h : Hp} {x0 : Nat} {x1 : Nat} {x2 : Int32} {x3 : Int32}, cw c x1 = w_x1 → TH ρ c h → ρ x0 = 8 → ρ x1 = 4 → Rg (-1) (63) (x2) → Rg (0) (65) (x3) → C_15 < x3.toInt → Sat (sX7_readRights_15 F f h x0 x1 x2 x3) (ZI ρ c (0) (1)) := by
      intro h' x0' x1' x2' x3' o_x1' T' r_x0' r_x1' i_x2' i_x3' hl
      exact ih o_x1' T' r_x0' r_x1' i_x2' i_x3' (by have := i_x3'.1; have := i_x3'.2; omega)
    have hc_15 : C_15 ≤ x3.toInt := by omega
    refine s_br (fun c_1 => ?_) (fun c_1 => ?_)
    · have _ := c_1
      have i_f_2 : Rg (65) (65) (x3) := rg_lt2 c_1 (rg_b rfl : Rg (64) (64) ((64 : Int32))) i_x3
      exact s_some ⟨(T), (rg_m (rg_b rfl : Rg (1) (1) ((1 : Int32))) (by decide))⟩
    · have _ := c_1
      have i_f_3 : Rg (0) (64) (x3) := rg_le1 (nlt_le c_1) i_x3 (rg_b rfl : Rg (64) (64) ((64 : Int32)))
      refine s_br (fun c_4 => ?_) (fun c_4 => ?_)
      · have _ := c_4
        have i_f_5 : Rg (0) (0) (x3) := rg_eq c_4 (rg_b rfl : Rg (0) (0) (0 : Int32))
        exact zX7_readRights_41 hF m5 @hk_15 (pmA_s hA rfl) (pmO_s hO_x1 rfl) o_x1 T r_x0 r_x1 i_x2 (rg_m i_f_5 (by decide)) hc_15
      · have _ := c_4
        have i_f_6 : Rg (1) (64) (x3) := rg_nlo c_4 i_f_3 (rg_b rfl : Rg (0) (0) (0 : Int32))
        obtain ⟨r_3, e_r_3, q_r_3⟩ := thM T r_x0 (k := 8) (i := 1) (j := 5) (k2 := 10) rfl (by decide) rfl (by decide) m5
        refine s_ref e_r_3 ?_
        refine s_dP0 (zX9_byteAt hF T q_r_3 (rg_m (thI T r_x0 (k := 8) (i := 2) rfl : Rg (0) (1201) ((hI h x0 2))) (by decide))) (fun o_4 eb_o_4 e_o_4 i_o_4 p_o_4 => ?_)
        have T_7 := th_eq e_o_4 T
        refine s_br (fun c_8 => ?_) (fun c_8 => ?_)
        · have _ := c_8
          have i_f_9 : Rg (32) (32) (o_4.1) := rg_eq c_8 (rg_b rfl : Rg (32) (32) ((32 : Int32)))
          have p_f_10 := p_o_4 (fun q => rc_eq q i_f_9 (rg_b rfl : Rg (-1) (-1) (-1 : Int32)) (by decide))
          exact s_some ⟨(T_7), (rg_m (rg_b rfl : Rg (1) (1) ((1 : Int32))) (by decide))⟩
        · have _ := c_8
          exact zX7_readRights_41 hF m5 @hk_15 (pmA_s hA rfl) (pmO_s hO_x1 rfl) o_x1 T_7 r_x0 r_x1 i_x2 (rg_m i_f_6 (by decide)) hc_15
set_option maxRecDepth 20000 in
theorem zX7_readRights {ρ : Nat → Nat} {c : Cm} {F : Nat} {w_x1 : Nat} (hF : 700000 ≤ F) (m5 : c.2.1 5 = true) (hA : pmA c [(8, 2)]) (hO_x1 : pmO c w_x1 [(4, 8)]) {h : Hp} {x0 : Nat} {x1 : Nat} (o_x1 : cw c x1 = w_x1) (T : TH ρ c h) (r_x0 : ρ x0 = 8) (r_x1 : ρ x1 = 4) : Sat (sX7_readRights F h x0 x1) (ZI ρ c (0) (1)) := by
  unfold sX7_readRights 
  refine s_cI (zX7_takeByte hF m5 (pmA_s hA rfl) T r_x0 (rg_m (rg_b rfl : Rg (45) (45) ((45 : Int32))) (by decide))) (fun o_1 T_1 i_o_1 => ?_)
  refine s_br (fun c_2 => ?_) (fun c_2 => ?_)
  · have _ := c_2
    have i_f_3 : Rg (0) (0) (o_1.1) := rg_eq c_2 (rg_b rfl : Rg (0) (0) (0 : Int32))
    have m_4 : Rg (0) (65) ((0 : Int32)) := (rg_m (rg_b rfl : Rg (0) (0) ((0 : Int32))) (by decide))
    exact zX7_readRights_15 hF m5 (pmA_s hA rfl) (pmO_s hO_x1 rfl) F o_x1 T_1 r_x0 r_x1 (rg_m (rg_b rfl : Rg (-1) (-1) ((- 1 : Int32))) (by decide)) (rg_m (rg_b rfl : Rg (0) (0) ((0 : Int32))) (by decide)) (by have := m_4.1; have := m_4.2; omega)
  · have _ := c_2
    have i_f_5 : Rg (1) (1) (o_1.1) := rg_nlo c_2 i_o_1 (rg_b rfl : Rg (0) (0) (0 : Int32))
    exact s_some ⟨(T_1), (rg_m (rg_b rfl : Rg (1) (1) ((1 : Int32))) (by decide))⟩
set_option maxRecDepth 20000 in
theorem zX7_readSide {ρ : Nat → Nat} {c : Cm} {F : Nat} {w_x1 : Nat} (hF : 700000 ≤ F) (m5 : c.2.1 5 = true) (hA : pmA c [(8, 2)]) (hO_x1 : pmO c w_x1 [(4, 5)]) {h : Hp} {x0 : Nat} {x1 : Nat} (o_x1 : cw c x1 = w_x1) (T : TH ρ c h) (r_x0 : ρ x0 = 8) (r_x1 : ρ x1 = 4) : Sat (sX7_readSide h x0 x1) (ZI ρ c (0) (1)) := by
  unfold sX7_readSide sX7_readSide_26 sX7_readSide_38
  obtain ⟨r_1, e_r_1, q_r_1⟩ := thM T r_x0 (k := 8) (i := 1) (j := 5) (k2 := 10) rfl (by decide) rfl (by decide) m5
  refine s_ref e_r_1 ?_
  refine s_dP0 (zX9_byteAt hF T q_r_1 (rg_m (thI T r_x0 (k := 8) (i := 2) rfl : Rg (0) (1201) ((hI h x0 2))) (by decide))) (fun o_2 eb_o_2 e_o_2 i_o_2 p_o_2 => ?_)
  have T_1 := th_eq e_o_2 T
  refine s_br (fun c_2 => ?_) (fun c_2 => ?_)
  · have _ := c_2
    have i_f_3 : Rg (119) (119) (o_2.1) := rg_eq c_2 (rg_b rfl : Rg (119) (119) ((119 : Int32)))
    have p_f_4 := p_o_2 (fun q => rc_eq q i_f_3 (rg_b rfl : Rg (-1) (-1) (-1 : Int32)) (by decide))
    refine s_br (fun c_5 => ?_) (fun c_5 => ?_)
    · have _ := c_5
      refine s_hq (th_wI T_1 r_x1 (k := 4) (lo := (0)) (hi := (1)) rfl ((rg_m (rg_b rfl : Rg (0) (0) ((0 : Int32))) (by decide)) : Rg (0) (1) ((0 : Int32))) (by decide) (by decide) (pm_o hO_x1 o_x1 rfl)) (fun h_1q2 T_6 w_7 => ?_)
      refine s_hq (th_wI T_6 r_x0 (k := 8) (lo := (0)) (hi := (1201)) rfl ((rg_m (rg_add ((rg_hw w_7 (ne_r r_x0 r_x1 (by decide)) (rg_he e_o_2 p_f_4)) : Rg (0) (1199) ((hI h_1q2 x0 2))) (rg_b rfl : Rg (1) (1) ((1 : Int32))) (by decide) : Rg (1) (1200) (((hI h_1q2 x0 2) + (1 : Int32)))) (by decide)) : Rg (0) (1201) (((hI h_1q2 x0 2) + (1 : Int32)))) (by decide) (by decide) (pm_a hA rfl)) (fun h_2q2 T_8 w_9 => ?_)
      exact s_some ⟨(T_8), (rg_m (rg_b rfl : Rg (1) (1) ((1 : Int32))) (by decide))⟩
    · have _ := c_5
      exact (rc_ne c_5 i_f_3 (rg_b rfl : Rg (119) (119) ((119 : Int32)))).elim
  · have _ := c_2
    refine s_br (fun c_10 => ?_) (fun c_10 => ?_)
    · have _ := c_10
      have i_f_11 : Rg (98) (98) (o_2.1) := rg_eq c_10 (rg_b rfl : Rg (98) (98) ((98 : Int32)))
      have p_f_12 := p_o_2 (fun q => rc_eq q i_f_11 (rg_b rfl : Rg (-1) (-1) (-1 : Int32)) (by decide))
      refine s_br (fun c_13 => ?_) (fun c_13 => ?_)
      · have _ := c_13
        exact (rc_eq c_13 i_f_11 (rg_b rfl : Rg (119) (119) ((119 : Int32))) (by decide)).elim
      · have _ := c_13
        refine s_hq (th_wI T_1 r_x1 (k := 4) (lo := (0)) (hi := (1)) rfl ((rg_m (rg_b rfl : Rg (1) (1) ((1 : Int32))) (by decide)) : Rg (0) (1) ((1 : Int32))) (by decide) (by decide) (pm_o hO_x1 o_x1 rfl)) (fun h_1q6 T_14 w_15 => ?_)
        refine s_hq (th_wI T_14 r_x0 (k := 8) (lo := (0)) (hi := (1201)) rfl ((rg_m (rg_add ((rg_hw w_15 (ne_r r_x0 r_x1 (by decide)) (rg_he e_o_2 p_f_12)) : Rg (0) (1199) ((hI h_1q6 x0 2))) (rg_b rfl : Rg (1) (1) ((1 : Int32))) (by decide) : Rg (1) (1200) (((hI h_1q6 x0 2) + (1 : Int32)))) (by decide)) : Rg (0) (1201) (((hI h_1q6 x0 2) + (1 : Int32)))) (by decide) (by decide) (pm_a hA rfl)) (fun h_2q6 T_16 w_17 => ?_)
        exact s_some ⟨(T_16), (rg_m (rg_b rfl : Rg (1) (1) ((1 : Int32))) (by decide))⟩
    · have _ := c_10
      exact s_some ⟨(T_1), (rg_m (rg_b rfl : Rg (0) (0) ((0 : Int32))) (by decide))⟩
set_option maxRecDepth 20000 in
theorem zX7_read {ρ : Nat → Nat} {c : Cm} {F : Nat} {w_x1 w_x2 : Nat} (hF : 700000 ≤ F) (hA : pmA c [(8, 1), (8, 2)]) (hO_x2 : pmO c w_x2 [(34, 999), (35, 999), (36, 999), (37, 999), (38, 999), (4, 5), (4, 6), (4, 7), (4, 8), (4, 9), (4, 10)]) {h : Hp} {x0 : Nat} {x1 : Nat} {x2 : Nat} (o_x1 : cw c x1 = w_x1) (o_x2 : cw c x2 = w_x2) (T : TH ρ c h) (r_x0 : ρ x0 = 8) (r_x1 : ρ x1 = 10) (r_x2 : ρ x2 = 4) (lw : (LwR ρ c h)) : Sat (sX7_read F h x0 x1 x2) (ZQ (ZI ρ c (-1) (1201)) (fun o => (RyC ρ c h o.2) ∧ (NoM x2 o.2) ∧ (RyP ρ c x2 o.2))) := by
  unfold sX7_read sX7_read_143 sX7_read_144 sX7_read_157
  refine s_hq (th_wR T r_x0 (k := 8) (i := 1) (j := 5) (k2 := 10) rfl (by decide) rfl (by decide) r_x1 rfl nid_5 (by decide) (by decide) rfl rfl (fun z => absurd rfl z) (pm_a hA rfl)) (fun h_1 T_1 w_2 => ?_)
  refine s_hq (th_wI T_1 r_x0 (k := 8) (lo := (0)) (hi := (1201)) rfl ((rg_m (rg_b rfl : Rg (0) (0) ((0 : Int32))) (by decide)) : Rg (0) (1201) ((0 : Int32))) (by decide) (by decide) (pm_a hA rfl)) (fun h_2 T_3 w_4 => ?_)
  refine s_cVfq (S := fS [] [(w_x2, [(34, 999), (35, 999), (36, 999), (37, 999), (38, 999), (4, 5), (4, 6), (4, 8), (4, 9), (4, 10)])]) T_3 (fs_sub pmA_n (fs_c (pmO_s hO_x2 rfl) fs_n)) (s_weq2 (zX3_clear (c := cat (nst c 5) (fS [] [(w_x2, [(34, 999), (35, 999), (36, 999), (37, 999), (38, 999), (4, 5), (4, 6), (4, 8), (4, 9), (4, 10)])]) h_2) hF (pmO_e o_x2 (fs_o (.head _)) rfl) (th_in _ T_3) r_x2)) (fun o_3 T_5 f_o_3 p_o_3 => ?_)
  have eb_o_3 := p_o_3.2
  have pq_o_3_0 : (hI o_3 x2 6).toInt = 0 := p_o_3.1
  have pf_6 : LwR ρ c o_3 := (lw_fr T_3  f_o_3 (fun _ => rfl) (fun _ => rfl) (fun _ => rfl) (lw_fr T_1  (fr1I (A := [(8, 2)]) r_x0 rfl w_4) (fun _ => rfl) (fun _ => rfl) (fun _ => rfl) (lw_fr T  (fr1R (A := [(8, 1)]) r_x0 rfl w_2) (fun _ => rfl) (fun _ => rfl) (fun _ => rfl) lw)))
  refine s_cIfq (S := fS [(8, 2)] [(w_x2, [(34, 999), (35, 999), (36, 999), (4, 7)])]) T_5 (fs_sub (pmA_s hA rfl) (fs_c (pmO_s hO_x2 rfl) fs_n)) (zX7_readRanks (c := cat (nst c 5) (fS [(8, 2)] [(w_x2, [(34, 999), (35, 999), (36, 999), (4, 7)])]) o_3) hF (cat_m nst_s) fs_a (fs_o (.head _)) o_x2 (th_in _ T_5) r_x0 r_x2 pf_6 (rc_clear (th_un T_3) r_x2 eb_o_3).2.2) (fun o_4 T_7 i_o_4 f_o_4 p_o_4 => ?_)
  refine s_br (fun c_8 => ?_) (fun c_8 => ?_)
  · have _ := c_8
    have i_f_9 : Rg (0) (0) (o_4.1) := rg_eq c_8 (rg_b rfl : Rg (0) (0) (0 : Int32))
    refine s_br (fun c_10 => ?_) (fun c_10 => ?_)
    · have _ := c_10
      have pf_11 : RyC ρ c h o_4.2 := (rc_t (rc_t (rc_fr (th_un T_1)  (fr1I (A := [(8, 2)]) r_x0 rfl w_4) (fun _ => rfl) (fun _ _ => rfl) (fun _ => rfl) (rc_fr T  (fr1R (A := [(8, 1)]) r_x0 rfl w_2) (fun _ => rfl) (fun _ _ => rfl) (fun _ => rfl) rc_0)) (rc_clear (th_un T_3) r_x2 eb_o_3).2.1) (show RyC ρ c o_3 o_4.2 from p_o_4.1))
      have pf_12 : RyP ρ c x2 o_4.2 := ((show RyC ρ c o_3 o_4.2 from p_o_4.1) _ r_x2 (rc_clear (th_un T_3) r_x2 eb_o_3).1)
      exact s_some ⟨⟨(th_un (T_7)), (rg_m (thI T_7 r_x0 (k := 8) (i := 2) rfl : Rg (0) (1201) ((hI o_4.2 x0 2))) (by decide))⟩, ⟨pf_11, p_o_4.2, pf_12⟩⟩
    · have _ := c_10
      exact (rc_ne c_10 (rg_b rfl : Rg (0) (0) ((0 : Int32))) (rg_b rfl : Rg (0) (0) (0 : Int32))).elim
  · have _ := c_8
    have i_f_13 : Rg (1) (1) (o_4.1) := rg_nlo c_8 i_o_4 (rg_b rfl : Rg (0) (0) (0 : Int32))
    refine s_cIf (S := fS [(8, 2)] []) T_7 (fs_sub (pmA_s hA rfl) fs_n) (zX7_takeByte (c := cat (nst c 5) (fS [(8, 2)] []) o_4.2) hF (cat_m nst_s) fs_a (th_in _ T_7) r_x0 (rg_m (rg_b rfl : Rg (32) (32) ((32 : Int32))) (by decide))) (fun o_6 T_14 i_o_6 f_o_6 => ?_)
    refine s_br (fun c_15 => ?_) (fun c_15 => ?_)
    · have _ := c_15
      have i_f_16 : Rg (0) (0) (o_6.1) := rg_eq c_15 (rg_b rfl : Rg (0) (0) (0 : Int32))
      refine s_br (fun c_17 => ?_) (fun c_17 => ?_)
      · have _ := c_17
        have pf_18 : RyC ρ c h o_6.2 := (rc_fr (th_un T_7)  f_o_6 (fun _ => rfl) (fun _ _ => rfl) (fun _ => rfl) (rc_t (rc_t (rc_fr (th_un T_1)  (fr1I (A := [(8, 2)]) r_x0 rfl w_4) (fun _ => rfl) (fun _ _ => rfl) (fun _ => rfl) (rc_fr T  (fr1R (A := [(8, 1)]) r_x0 rfl w_2) (fun _ => rfl) (fun _ _ => rfl) (fun _ => rfl) rc_0)) (rc_clear (th_un T_3) r_x2 eb_o_3).2.1) (show RyC ρ c o_3 o_4.2 from p_o_4.1)))
        have pf_19 : NoM x2 o_6.2 := (nm_fr T_7 r_x2 f_o_6 rfl (fun _ => rfl) p_o_4.2)
        have pf_20 : RyP ρ c x2 o_6.2 := (ry_fr (th_un T_7) r_x2 f_o_6 rfl (fun _ => rfl) (fun _ => rfl) ((show RyC ρ c o_3 o_4.2 from p_o_4.1) _ r_x2 (rc_clear (th_un T_3) r_x2 eb_o_3).1))
        exact s_some ⟨⟨(th_un (T_14)), (rg_m (thI T_14 r_x0 (k := 8) (i := 2) rfl : Rg (0) (1201) ((hI o_6.2 x0 2))) (by decide))⟩, ⟨pf_18, pf_19, pf_20⟩⟩
      · have _ := c_17
        exact (rc_ne c_17 (rg_b rfl : Rg (0) (0) ((0 : Int32))) (rg_b rfl : Rg (0) (0) (0 : Int32))).elim
    · have _ := c_15
      have i_f_21 : Rg (1) (1) (o_6.1) := rg_nlo c_15 i_o_6 (rg_b rfl : Rg (0) (0) (0 : Int32))
      refine s_cIf (S := fS [(8, 2)] [(w_x2, [(4, 5)])]) T_14 (fs_sub (pmA_s hA rfl) (fs_c (pmO_s hO_x2 rfl) fs_n)) (zX7_readSide (c := cat (nst c 5) (fS [(8, 2)] [(w_x2, [(4, 5)])]) o_6.2) hF (cat_m nst_s) fs_a (fs_o (.head _)) o_x2 (th_in _ T_14) r_x0 r_x2) (fun o_8 T_22 i_o_8 f_o_8 => ?_)
      refine s_br (fun c_23 => ?_) (fun c_23 => ?_)
      · have _ := c_23
        have i_f_24 : Rg (0) (0) (o_8.1) := rg_eq c_23 (rg_b rfl : Rg (0) (0) (0 : Int32))
        refine s_br (fun c_25 => ?_) (fun c_25 => ?_)
        · have _ := c_25
          have pf_26 : RyC ρ c h o_8.2 := (rc_fr (th_un T_14)  f_o_8 (fun _ => rfl) (fun _ _ => rfl) (fun _ => rfl) (rc_fr (th_un T_7)  f_o_6 (fun _ => rfl) (fun _ _ => rfl) (fun _ => rfl) (rc_t (rc_t (rc_fr (th_un T_1)  (fr1I (A := [(8, 2)]) r_x0 rfl w_4) (fun _ => rfl) (fun _ _ => rfl) (fun _ => rfl) (rc_fr T  (fr1R (A := [(8, 1)]) r_x0 rfl w_2) (fun _ => rfl) (fun _ _ => rfl) (fun _ => rfl) rc_0)) (rc_clear (th_un T_3) r_x2 eb_o_3).2.1) (show RyC ρ c o_3 o_4.2 from p_o_4.1))))
          have pf_27 : NoM x2 o_8.2 := (nm_fr T_14 r_x2 f_o_8 rfl (fun _ => rfl) (nm_fr T_7 r_x2 f_o_6 rfl (fun _ => rfl) p_o_4.2))
          have pf_28 : RyP ρ c x2 o_8.2 := (ry_fr (th_un T_14) r_x2 f_o_8 rfl (fun _ => rfl) (fun _ => rfl) (ry_fr (th_un T_7) r_x2 f_o_6 rfl (fun _ => rfl) (fun _ => rfl) ((show RyC ρ c o_3 o_4.2 from p_o_4.1) _ r_x2 (rc_clear (th_un T_3) r_x2 eb_o_3).1)))
          exact s_some ⟨⟨(th_un (T_22)), (rg_m (thI T_22 r_x0 (k := 8) (i := 2) rfl : Rg (0) (1201) ((hI o_8.2 x0 2))) (by decide))⟩, ⟨pf_26, pf_27, pf_28⟩⟩
        · have _ := c_25
          exact (rc_ne c_25 (rg_b rfl : Rg (0) (0) ((0 : Int32))) (rg_b rfl : Rg (0) (0) (0 : Int32))).elim
      · have _ := c_23
        have i_f_29 : Rg (1) (1) (o_8.1) := rg_nlo c_23 i_o_8 (rg_b rfl : Rg (0) (0) (0 : Int32))
        refine s_cIf (S := fS [(8, 2)] []) T_22 (fs_sub (pmA_s hA rfl) fs_n) (zX7_takeByte (c := cat (nst c 5) (fS [(8, 2)] []) o_8.2) hF (cat_m nst_s) fs_a (th_in _ T_22) r_x0 (rg_m (rg_b rfl : Rg (32) (32) ((32 : Int32))) (by decide))) (fun o_10 T_30 i_o_10 f_o_10 => ?_)
        refine s_br (fun c_31 => ?_) (fun c_31 => ?_)
        · have _ := c_31
          have i_f_32 : Rg (0) (0) (o_10.1) := rg_eq c_31 (rg_b rfl : Rg (0) (0) (0 : Int32))
          refine s_br (fun c_33 => ?_) (fun c_33 => ?_)
          · have _ := c_33
            have pf_34 : RyC ρ c h o_10.2 := (rc_fr (th_un T_22)  f_o_10 (fun _ => rfl) (fun _ _ => rfl) (fun _ => rfl) (rc_fr (th_un T_14)  f_o_8 (fun _ => rfl) (fun _ _ => rfl) (fun _ => rfl) (rc_fr (th_un T_7)  f_o_6 (fun _ => rfl) (fun _ _ => rfl) (fun _ => rfl) (rc_t (rc_t (rc_fr (th_un T_1)  (fr1I (A := [(8, 2)]) r_x0 rfl w_4) (fun _ => rfl) (fun _ _ => rfl) (fun _ => rfl) (rc_fr T  (fr1R (A := [(8, 1)]) r_x0 rfl w_2) (fun _ => rfl) (fun _ _ => rfl) (fun _ => rfl) rc_0)) (rc_clear (th_un T_3) r_x2 eb_o_3).2.1) (show RyC ρ c o_3 o_4.2 from p_o_4.1)))))
            have pf_35 : NoM x2 o_10.2 := (nm_fr T_22 r_x2 f_o_10 rfl (fun _ => rfl) (nm_fr T_14 r_x2 f_o_8 rfl (fun _ => rfl) (nm_fr T_7 r_x2 f_o_6 rfl (fun _ => rfl) p_o_4.2)))
            have pf_36 : RyP ρ c x2 o_10.2 := (ry_fr (th_un T_22) r_x2 f_o_10 rfl (fun _ => rfl) (fun _ => rfl) (ry_fr (th_un T_14) r_x2 f_o_8 rfl (fun _ => rfl) (fun _ => rfl) (ry_fr (th_un T_7) r_x2 f_o_6 rfl (fun _ => rfl) (fun _ => rfl) ((show RyC ρ c o_3 o_4.2 from p_o_4.1) _ r_x2 (rc_clear (th_un T_3) r_x2 eb_o_3).1))))
            exact s_some ⟨⟨(th_un (T_30)), (rg_m (thI T_30 r_x0 (k := 8) (i := 2) rfl : Rg (0) (1201) ((hI o_10.2 x0 2))) (by decide))⟩, ⟨pf_34, pf_35, pf_36⟩⟩
          · have _ := c_33
            exact (rc_ne c_33 (rg_b rfl : Rg (0) (0) ((0 : Int32))) (rg_b rfl : Rg (0) (0) (0 : Int32))).elim
        · have _ := c_31
          have i_f_37 : Rg (1) (1) (o_10.1) := rg_nlo c_31 i_o_10 (rg_b rfl : Rg (0) (0) (0 : Int32))
          refine s_cIf (S := fS [(8, 2)] [(w_x2, [(4, 8)])]) T_30 (fs_sub (pmA_s hA rfl) (fs_c (pmO_s hO_x2 rfl) fs_n)) (zX7_readRights (c := cat (nst c 5) (fS [(8, 2)] [(w_x2, [(4, 8)])]) o_10.2) hF (cat_m nst_s) fs_a (fs_o (.head _)) o_x2 (th_in _ T_30) r_x0 r_x2) (fun o_12 T_38 i_o_12 f_o_12 => ?_)
          refine s_br (fun c_39 => ?_) (fun c_39 => ?_)
          · have _ := c_39
            have i_f_40 : Rg (0) (0) (o_12.1) := rg_eq c_39 (rg_b rfl : Rg (0) (0) (0 : Int32))
            refine s_br (fun c_41 => ?_) (fun c_41 => ?_)
            · have _ := c_41
              have pf_42 : RyC ρ c h o_12.2 := (rc_fr (th_un T_30)  f_o_12 (fun _ => rfl) (fun _ _ => rfl) (fun _ => rfl) (rc_fr (th_un T_22)  f_o_10 (fun _ => rfl) (fun _ _ => rfl) (fun _ => rfl) (rc_fr (th_un T_14)  f_o_8 (fun _ => rfl) (fun _ _ => rfl) (fun _ => rfl) (rc_fr (th_un T_7)  f_o_6 (fun _ => rfl) (fun _ _ => rfl) (fun _ => rfl) (rc_t (rc_t (rc_fr (th_un T_1)  (fr1I (A := [(8, 2)]) r_x0 rfl w_4) (fun _ => rfl) (fun _ _ => rfl) (fun _ => rfl) (rc_fr T  (fr1R (A := [(8, 1)]) r_x0 rfl w_2) (fun _ => rfl) (fun _ _ => rfl) (fun _ => rfl) rc_0)) (rc_clear (th_un T_3) r_x2 eb_o_3).2.1) (show RyC ρ c o_3 o_4.2 from p_o_4.1))))))
              have pf_43 : NoM x2 o_12.2 := (nm_fr T_30 r_x2 f_o_12 rfl (fun _ => rfl) (nm_fr T_22 r_x2 f_o_10 rfl (fun _ => rfl) (nm_fr T_14 r_x2 f_o_8 rfl (fun _ => rfl) (nm_fr T_7 r_x2 f_o_6 rfl (fun _ => rfl) p_o_4.2))))
              have pf_44 : RyP ρ c x2 o_12.2 := (ry_fr (th_un T_30) r_x2 f_o_12 rfl (fun _ => rfl) (fun _ => rfl) (ry_fr (th_un T_22) r_x2 f_o_10 rfl (fun _ => rfl) (fun _ => rfl) (ry_fr (th_un T_14) r_x2 f_o_8 rfl (fun _ => rfl) (fun _ => rfl) (ry_fr (th_un T_7) r_x2 f_o_6 rfl (fun _ => rfl) (fun _ => rfl) ((show RyC ρ c o_3 o_4.2 from p_o_4.1) _ r_x2 (rc_clear (th_un T_3) r_x2 eb_o_3).1)))))
              exact s_some ⟨⟨(th_un (T_38)), (rg_m (thI T_38 r_x0 (k := 8) (i := 2) rfl : Rg (0) (1201) ((hI o_12.2 x0 2))) (by decide))⟩, ⟨pf_42, pf_43, pf_44⟩⟩
            · have _ := c_41
              exact (rc_ne c_41 (rg_b rfl : Rg (0) (0) ((0 : Int32))) (rg_b rfl : Rg (0) (0) (0 : Int32))).elim
          · have _ := c_39
            have i_f_45 : Rg (1) (1) (o_12.1) := rg_nlo c_39 i_o_12 (rg_b rfl : Rg (0) (0) (0 : Int32))
            refine s_cIf (S := fS [(8, 2)] []) T_38 (fs_sub (pmA_s hA rfl) fs_n) (zX7_takeByte (c := cat (nst c 5) (fS [(8, 2)] []) o_12.2) hF (cat_m nst_s) fs_a (th_in _ T_38) r_x0 (rg_m (rg_b rfl : Rg (32) (32) ((32 : Int32))) (by decide))) (fun o_14 T_46 i_o_14 f_o_14 => ?_)
            refine s_br (fun c_47 => ?_) (fun c_47 => ?_)
            · have _ := c_47
              have i_f_48 : Rg (0) (0) (o_14.1) := rg_eq c_47 (rg_b rfl : Rg (0) (0) (0 : Int32))
              refine s_br (fun c_49 => ?_) (fun c_49 => ?_)
              · have _ := c_49
                have pf_50 : RyC ρ c h o_14.2 := (rc_fr (th_un T_38)  f_o_14 (fun _ => rfl) (fun _ _ => rfl) (fun _ => rfl) (rc_fr (th_un T_30)  f_o_12 (fun _ => rfl) (fun _ _ => rfl) (fun _ => rfl) (rc_fr (th_un T_22)  f_o_10 (fun _ => rfl) (fun _ _ => rfl) (fun _ => rfl) (rc_fr (th_un T_14)  f_o_8 (fun _ => rfl) (fun _ _ => rfl) (fun _ => rfl) (rc_fr (th_un T_7)  f_o_6 (fun _ => rfl) (fun _ _ => rfl) (fun _ => rfl) (rc_t (rc_t (rc_fr (th_un T_1)  (fr1I (A := [(8, 2)]) r_x0 rfl w_4) (fun _ => rfl) (fun _ _ => rfl) (fun _ => rfl) (rc_fr T  (fr1R (A := [(8, 1)]) r_x0 rfl w_2) (fun _ => rfl) (fun _ _ => rfl) (fun _ => rfl) rc_0)) (rc_clear (th_un T_3) r_x2 eb_o_3).2.1) (show RyC ρ c o_3 o_4.2 from p_o_4.1)))))))
                have pf_51 : NoM x2 o_14.2 := (nm_fr T_38 r_x2 f_o_14 rfl (fun _ => rfl) (nm_fr T_30 r_x2 f_o_12 rfl (fun _ => rfl) (nm_fr T_22 r_x2 f_o_10 rfl (fun _ => rfl) (nm_fr T_14 r_x2 f_o_8 rfl (fun _ => rfl) (nm_fr T_7 r_x2 f_o_6 rfl (fun _ => rfl) p_o_4.2)))))
                have pf_52 : RyP ρ c x2 o_14.2 := (ry_fr (th_un T_38) r_x2 f_o_14 rfl (fun _ => rfl) (fun _ => rfl) (ry_fr (th_un T_30) r_x2 f_o_12 rfl (fun _ => rfl) (fun _ => rfl) (ry_fr (th_un T_22) r_x2 f_o_10 rfl (fun _ => rfl) (fun _ => rfl) (ry_fr (th_un T_14) r_x2 f_o_8 rfl (fun _ => rfl) (fun _ => rfl) (ry_fr (th_un T_7) r_x2 f_o_6 rfl (fun _ => rfl) (fun _ => rfl) ((show RyC ρ c o_3 o_4.2 from p_o_4.1) _ r_x2 (rc_clear (th_un T_3) r_x2 eb_o_3).1))))))
                exact s_some ⟨⟨(th_un (T_46)), (rg_m (thI T_46 r_x0 (k := 8) (i := 2) rfl : Rg (0) (1201) ((hI o_14.2 x0 2))) (by decide))⟩, ⟨pf_50, pf_51, pf_52⟩⟩
              · have _ := c_49
                exact (rc_ne c_49 (rg_b rfl : Rg (0) (0) ((0 : Int32))) (rg_b rfl : Rg (0) (0) (0 : Int32))).elim
            · have _ := c_47
              have i_f_53 : Rg (1) (1) (o_14.1) := rg_nlo c_47 i_o_14 (rg_b rfl : Rg (0) (0) (0 : Int32))
              refine s_cIf (S := fS [(8, 2)] [(w_x2, [(4, 9), (4, 10)])]) T_46 (fs_sub (pmA_s hA rfl) (fs_c (pmO_s hO_x2 rfl) fs_n)) (zX7_readPass (c := cat (nst c 5) (fS [(8, 2)] [(w_x2, [(4, 9), (4, 10)])]) o_14.2) hF (cat_m nst_s) fs_a (fs_o (.head _)) o_x2 (th_in _ T_46) r_x0 r_x2) (fun o_16 T_54 i_o_16 f_o_16 => ?_)
              refine s_br (fun c_55 => ?_) (fun c_55 => ?_)
              · have _ := c_55
                have i_f_56 : Rg (0) (0) (o_16.1) := rg_eq c_55 (rg_b rfl : Rg (0) (0) (0 : Int32))
                refine s_br (fun c_57 => ?_) (fun c_57 => ?_)
                · have _ := c_57
                  have pf_58 : RyC ρ c h o_16.2 := (rc_fr (th_un T_46)  f_o_16 (fun _ => rfl) (fun _ _ => rfl) (fun _ => rfl) (rc_fr (th_un T_38)  f_o_14 (fun _ => rfl) (fun _ _ => rfl) (fun _ => rfl) (rc_fr (th_un T_30)  f_o_12 (fun _ => rfl) (fun _ _ => rfl) (fun _ => rfl) (rc_fr (th_un T_22)  f_o_10 (fun _ => rfl) (fun _ _ => rfl) (fun _ => rfl) (rc_fr (th_un T_14)  f_o_8 (fun _ => rfl) (fun _ _ => rfl) (fun _ => rfl) (rc_fr (th_un T_7)  f_o_6 (fun _ => rfl) (fun _ _ => rfl) (fun _ => rfl) (rc_t (rc_t (rc_fr (th_un T_1)  (fr1I (A := [(8, 2)]) r_x0 rfl w_4) (fun _ => rfl) (fun _ _ => rfl) (fun _ => rfl) (rc_fr T  (fr1R (A := [(8, 1)]) r_x0 rfl w_2) (fun _ => rfl) (fun _ _ => rfl) (fun _ => rfl) rc_0)) (rc_clear (th_un T_3) r_x2 eb_o_3).2.1) (show RyC ρ c o_3 o_4.2 from p_o_4.1))))))))
                  have pf_59 : NoM x2 o_16.2 := (nm_fr T_46 r_x2 f_o_16 rfl (fun _ => rfl) (nm_fr T_38 r_x2 f_o_14 rfl (fun _ => rfl) (nm_fr T_30 r_x2 f_o_12 rfl (fun _ => rfl) (nm_fr T_22 r_x2 f_o_10 rfl (fun _ => rfl) (nm_fr T_14 r_x2 f_o_8 rfl (fun _ => rfl) (nm_fr T_7 r_x2 f_o_6 rfl (fun _ => rfl) p_o_4.2))))))
                  have pf_60 : RyP ρ c x2 o_16.2 := (ry_fr (th_un T_46) r_x2 f_o_16 rfl (fun _ => rfl) (fun _ => rfl) (ry_fr (th_un T_38) r_x2 f_o_14 rfl (fun _ => rfl) (fun _ => rfl) (ry_fr (th_un T_30) r_x2 f_o_12 rfl (fun _ => rfl) (fun _ => rfl) (ry_fr (th_un T_22) r_x2 f_o_10 rfl (fun _ => rfl) (fun _ => rfl) (ry_fr (th_un T_14) r_x2 f_o_8 rfl (fun _ => rfl) (fun _ => rfl) (ry_fr (th_un T_7) r_x2 f_o_6 rfl (fun _ => rfl) (fun _ => rfl) ((show RyC ρ c o_3 o_4.2 from p_o_4.1) _ r_x2 (rc_clear (th_un T_3) r_x2 eb_o_3).1)))))))
                  exact s_some ⟨⟨(th_un (T_54)), (rg_m (thI T_54 r_x0 (k := 8) (i := 2) rfl : Rg (0) (1201) ((hI o_16.2 x0 2))) (by decide))⟩, ⟨pf_58, pf_59, pf_60⟩⟩
                · have _ := c_57
                  exact (rc_ne c_57 (rg_b rfl : Rg (0) (0) ((0 : Int32))) (rg_b rfl : Rg (0) (0) (0 : Int32))).elim
              · have _ := c_55
                have i_f_61 : Rg (1) (1) (o_16.1) := rg_nlo c_55 i_o_16 (rg_b rfl : Rg (0) (0) (0 : Int32))
                refine s_cIf (S := fS [(8, 2)] []) T_54 (fs_sub (pmA_s hA rfl) fs_n) (zX7_takeByte (c := cat (nst c 5) (fS [(8, 2)] []) o_16.2) hF (cat_m nst_s) fs_a (th_in _ T_54) r_x0 (rg_m (rg_b rfl : Rg (32) (32) ((32 : Int32))) (by decide))) (fun o_18 T_62 i_o_18 f_o_18 => ?_)
                refine s_br (fun c_63 => ?_) (fun c_63 => ?_)
                · have _ := c_63
                  have i_f_64 : Rg (0) (0) (o_18.1) := rg_eq c_63 (rg_b rfl : Rg (0) (0) (0 : Int32))
                  refine s_br (fun c_65 => ?_) (fun c_65 => ?_)
                  · have _ := c_65
                    have pf_66 : RyC ρ c h o_18.2 := (rc_fr (th_un T_54)  f_o_18 (fun _ => rfl) (fun _ _ => rfl) (fun _ => rfl) (rc_fr (th_un T_46)  f_o_16 (fun _ => rfl) (fun _ _ => rfl) (fun _ => rfl) (rc_fr (th_un T_38)  f_o_14 (fun _ => rfl) (fun _ _ => rfl) (fun _ => rfl) (rc_fr (th_un T_30)  f_o_12 (fun _ => rfl) (fun _ _ => rfl) (fun _ => rfl) (rc_fr (th_un T_22)  f_o_10 (fun _ => rfl) (fun _ _ => rfl) (fun _ => rfl) (rc_fr (th_un T_14)  f_o_8 (fun _ => rfl) (fun _ _ => rfl) (fun _ => rfl) (rc_fr (th_un T_7)  f_o_6 (fun _ => rfl) (fun _ _ => rfl) (fun _ => rfl) (rc_t (rc_t (rc_fr (th_un T_1)  (fr1I (A := [(8, 2)]) r_x0 rfl w_4) (fun _ => rfl) (fun _ _ => rfl) (fun _ => rfl) (rc_fr T  (fr1R (A := [(8, 1)]) r_x0 rfl w_2) (fun _ => rfl) (fun _ _ => rfl) (fun _ => rfl) rc_0)) (rc_clear (th_un T_3) r_x2 eb_o_3).2.1) (show RyC ρ c o_3 o_4.2 from p_o_4.1)))))))))
                    have pf_67 : NoM x2 o_18.2 := (nm_fr T_54 r_x2 f_o_18 rfl (fun _ => rfl) (nm_fr T_46 r_x2 f_o_16 rfl (fun _ => rfl) (nm_fr T_38 r_x2 f_o_14 rfl (fun _ => rfl) (nm_fr T_30 r_x2 f_o_12 rfl (fun _ => rfl) (nm_fr T_22 r_x2 f_o_10 rfl (fun _ => rfl) (nm_fr T_14 r_x2 f_o_8 rfl (fun _ => rfl) (nm_fr T_7 r_x2 f_o_6 rfl (fun _ => rfl) p_o_4.2)))))))
                    have pf_68 : RyP ρ c x2 o_18.2 := (ry_fr (th_un T_54) r_x2 f_o_18 rfl (fun _ => rfl) (fun _ => rfl) (ry_fr (th_un T_46) r_x2 f_o_16 rfl (fun _ => rfl) (fun _ => rfl) (ry_fr (th_un T_38) r_x2 f_o_14 rfl (fun _ => rfl) (fun _ => rfl) (ry_fr (th_un T_30) r_x2 f_o_12 rfl (fun _ => rfl) (fun _ => rfl) (ry_fr (th_un T_22) r_x2 f_o_10 rfl (fun _ => rfl) (fun _ => rfl) (ry_fr (th_un T_14) r_x2 f_o_8 rfl (fun _ => rfl) (fun _ => rfl) (ry_fr (th_un T_7) r_x2 f_o_6 rfl (fun _ => rfl) (fun _ => rfl) ((show RyC ρ c o_3 o_4.2 from p_o_4.1) _ r_x2 (rc_clear (th_un T_3) r_x2 eb_o_3).1))))))))
                    exact s_some ⟨⟨(th_un (T_62)), (rg_m (thI T_62 r_x0 (k := 8) (i := 2) rfl : Rg (0) (1201) ((hI o_18.2 x0 2))) (by decide))⟩, ⟨pf_66, pf_67, pf_68⟩⟩
                  · have _ := c_65
                    exact (rc_ne c_65 (rg_b rfl : Rg (0) (0) ((0 : Int32))) (rg_b rfl : Rg (0) (0) (0 : Int32))).elim
                · have _ := c_63
                  have i_f_69 : Rg (1) (1) (o_18.1) := rg_nlo c_63 i_o_18 (rg_b rfl : Rg (0) (0) (0 : Int32))
                  refine s_cIf (S := fS [(8, 2)] [(w_x2, [(37, 999)])]) T_62 (fs_sub (pmA_s hA rfl) (fs_c (pmO_s hO_x2 rfl) fs_n)) (zX7_readHands (c := cat (nst c 5) (fS [(8, 2)] [(w_x2, [(37, 999)])]) o_18.2) hF (cat_m nst_s) fs_a (fs_o (.head _)) o_x2 (th_in _ T_62) r_x0 r_x2) (fun o_20 T_70 i_o_20 f_o_20 => ?_)
                  refine s_br (fun c_71 => ?_) (fun c_71 => ?_)
                  · have _ := c_71
                    have i_f_72 : Rg (0) (0) (o_20.1) := rg_eq c_71 (rg_b rfl : Rg (0) (0) (0 : Int32))
                    refine s_br (fun c_73 => ?_) (fun c_73 => ?_)
                    · have _ := c_73
                      have pf_74 : RyC ρ c h o_20.2 := (rc_fr (th_un T_62)  f_o_20 (fun _ => rfl) (fun _ _ => rfl) (fun _ => rfl) (rc_fr (th_un T_54)  f_o_18 (fun _ => rfl) (fun _ _ => rfl) (fun _ => rfl) (rc_fr (th_un T_46)  f_o_16 (fun _ => rfl) (fun _ _ => rfl) (fun _ => rfl) (rc_fr (th_un T_38)  f_o_14 (fun _ => rfl) (fun _ _ => rfl) (fun _ => rfl) (rc_fr (th_un T_30)  f_o_12 (fun _ => rfl) (fun _ _ => rfl) (fun _ => rfl) (rc_fr (th_un T_22)  f_o_10 (fun _ => rfl) (fun _ _ => rfl) (fun _ => rfl) (rc_fr (th_un T_14)  f_o_8 (fun _ => rfl) (fun _ _ => rfl) (fun _ => rfl) (rc_fr (th_un T_7)  f_o_6 (fun _ => rfl) (fun _ _ => rfl) (fun _ => rfl) (rc_t (rc_t (rc_fr (th_un T_1)  (fr1I (A := [(8, 2)]) r_x0 rfl w_4) (fun _ => rfl) (fun _ _ => rfl) (fun _ => rfl) (rc_fr T  (fr1R (A := [(8, 1)]) r_x0 rfl w_2) (fun _ => rfl) (fun _ _ => rfl) (fun _ => rfl) rc_0)) (rc_clear (th_un T_3) r_x2 eb_o_3).2.1) (show RyC ρ c o_3 o_4.2 from p_o_4.1))))))))))
                      have pf_75 : NoM x2 o_20.2 := (nm_fr T_62 r_x2 f_o_20 rfl (fun _ => rfl) (nm_fr T_54 r_x2 f_o_18 rfl (fun _ => rfl) (nm_fr T_46 r_x2 f_o_16 rfl (fun _ => rfl) (nm_fr T_38 r_x2 f_o_14 rfl (fun _ => rfl) (nm_fr T_30 r_x2 f_o_12 rfl (fun _ => rfl) (nm_fr T_22 r_x2 f_o_10 rfl (fun _ => rfl) (nm_fr T_14 r_x2 f_o_8 rfl (fun _ => rfl) (nm_fr T_7 r_x2 f_o_6 rfl (fun _ => rfl) p_o_4.2))))))))
                      have pf_76 : RyP ρ c x2 o_20.2 := (ry_fr (th_un T_62) r_x2 f_o_20 rfl (fun _ => rfl) (fun _ => rfl) (ry_fr (th_un T_54) r_x2 f_o_18 rfl (fun _ => rfl) (fun _ => rfl) (ry_fr (th_un T_46) r_x2 f_o_16 rfl (fun _ => rfl) (fun _ => rfl) (ry_fr (th_un T_38) r_x2 f_o_14 rfl (fun _ => rfl) (fun _ => rfl) (ry_fr (th_un T_30) r_x2 f_o_12 rfl (fun _ => rfl) (fun _ => rfl) (ry_fr (th_un T_22) r_x2 f_o_10 rfl (fun _ => rfl) (fun _ => rfl) (ry_fr (th_un T_14) r_x2 f_o_8 rfl (fun _ => rfl) (fun _ => rfl) (ry_fr (th_un T_7) r_x2 f_o_6 rfl (fun _ => rfl) (fun _ => rfl) ((show RyC ρ c o_3 o_4.2 from p_o_4.1) _ r_x2 (rc_clear (th_un T_3) r_x2 eb_o_3).1)))))))))
                      exact s_some ⟨⟨(th_un (T_70)), (rg_m (thI T_70 r_x0 (k := 8) (i := 2) rfl : Rg (0) (1201) ((hI o_20.2 x0 2))) (by decide))⟩, ⟨pf_74, pf_75, pf_76⟩⟩
                    · have _ := c_73
                      exact (rc_ne c_73 (rg_b rfl : Rg (0) (0) ((0 : Int32))) (rg_b rfl : Rg (0) (0) (0 : Int32))).elim
                  · have _ := c_71
                    have i_f_77 : Rg (1) (1) (o_20.1) := rg_nlo c_71 i_o_20 (rg_b rfl : Rg (0) (0) (0 : Int32))
                    refine s_cIf (S := fS [(8, 2)] []) T_70 (fs_sub (pmA_s hA rfl) fs_n) (zX7_takeByte (c := cat (nst c 5) (fS [(8, 2)] []) o_20.2) hF (cat_m nst_s) fs_a (th_in _ T_70) r_x0 (rg_m (rg_b rfl : Rg (32) (32) ((32 : Int32))) (by decide))) (fun o_22 T_78 i_o_22 f_o_22 => ?_)
                    refine s_br (fun c_79 => ?_) (fun c_79 => ?_)
                    · have _ := c_79
                      have i_f_80 : Rg (0) (0) (o_22.1) := rg_eq c_79 (rg_b rfl : Rg (0) (0) (0 : Int32))
                      refine s_br (fun c_81 => ?_) (fun c_81 => ?_)
                      · have _ := c_81
                        have pf_82 : RyC ρ c h o_22.2 := (rc_fr (th_un T_70)  f_o_22 (fun _ => rfl) (fun _ _ => rfl) (fun _ => rfl) (rc_fr (th_un T_62)  f_o_20 (fun _ => rfl) (fun _ _ => rfl) (fun _ => rfl) (rc_fr (th_un T_54)  f_o_18 (fun _ => rfl) (fun _ _ => rfl) (fun _ => rfl) (rc_fr (th_un T_46)  f_o_16 (fun _ => rfl) (fun _ _ => rfl) (fun _ => rfl) (rc_fr (th_un T_38)  f_o_14 (fun _ => rfl) (fun _ _ => rfl) (fun _ => rfl) (rc_fr (th_un T_30)  f_o_12 (fun _ => rfl) (fun _ _ => rfl) (fun _ => rfl) (rc_fr (th_un T_22)  f_o_10 (fun _ => rfl) (fun _ _ => rfl) (fun _ => rfl) (rc_fr (th_un T_14)  f_o_8 (fun _ => rfl) (fun _ _ => rfl) (fun _ => rfl) (rc_fr (th_un T_7)  f_o_6 (fun _ => rfl) (fun _ _ => rfl) (fun _ => rfl) (rc_t (rc_t (rc_fr (th_un T_1)  (fr1I (A := [(8, 2)]) r_x0 rfl w_4) (fun _ => rfl) (fun _ _ => rfl) (fun _ => rfl) (rc_fr T  (fr1R (A := [(8, 1)]) r_x0 rfl w_2) (fun _ => rfl) (fun _ _ => rfl) (fun _ => rfl) rc_0)) (rc_clear (th_un T_3) r_x2 eb_o_3).2.1) (show RyC ρ c o_3 o_4.2 from p_o_4.1)))))))))))
                        have pf_83 : NoM x2 o_22.2 := (nm_fr T_70 r_x2 f_o_22 rfl (fun _ => rfl) (nm_fr T_62 r_x2 f_o_20 rfl (fun _ => rfl) (nm_fr T_54 r_x2 f_o_18 rfl (fun _ => rfl) (nm_fr T_46 r_x2 f_o_16 rfl (fun _ => rfl) (nm_fr T_38 r_x2 f_o_14 rfl (fun _ => rfl) (nm_fr T_30 r_x2 f_o_12 rfl (fun _ => rfl) (nm_fr T_22 r_x2 f_o_10 rfl (fun _ => rfl) (nm_fr T_14 r_x2 f_o_8 rfl (fun _ => rfl) (nm_fr T_7 r_x2 f_o_6 rfl (fun _ => rfl) p_o_4.2)))))))))
                        have pf_84 : RyP ρ c x2 o_22.2 := (ry_fr (th_un T_70) r_x2 f_o_22 rfl (fun _ => rfl) (fun _ => rfl) (ry_fr (th_un T_62) r_x2 f_o_20 rfl (fun _ => rfl) (fun _ => rfl) (ry_fr (th_un T_54) r_x2 f_o_18 rfl (fun _ => rfl) (fun _ => rfl) (ry_fr (th_un T_46) r_x2 f_o_16 rfl (fun _ => rfl) (fun _ => rfl) (ry_fr (th_un T_38) r_x2 f_o_14 rfl (fun _ => rfl) (fun _ => rfl) (ry_fr (th_un T_30) r_x2 f_o_12 rfl (fun _ => rfl) (fun _ => rfl) (ry_fr (th_un T_22) r_x2 f_o_10 rfl (fun _ => rfl) (fun _ => rfl) (ry_fr (th_un T_14) r_x2 f_o_8 rfl (fun _ => rfl) (fun _ => rfl) (ry_fr (th_un T_7) r_x2 f_o_6 rfl (fun _ => rfl) (fun _ => rfl) ((show RyC ρ c o_3 o_4.2 from p_o_4.1) _ r_x2 (rc_clear (th_un T_3) r_x2 eb_o_3).1))))))))))
                        exact s_some ⟨⟨(th_un (T_78)), (rg_m (thI T_78 r_x0 (k := 8) (i := 2) rfl : Rg (0) (1201) ((hI o_22.2 x0 2))) (by decide))⟩, ⟨pf_82, pf_83, pf_84⟩⟩
                      · have _ := c_81
                        exact (rc_ne c_81 (rg_b rfl : Rg (0) (0) ((0 : Int32))) (rg_b rfl : Rg (0) (0) (0 : Int32))).elim
                    · have _ := c_79
                      have i_f_85 : Rg (1) (1) (o_22.1) := rg_nlo c_79 i_o_22 (rg_b rfl : Rg (0) (0) (0 : Int32))
                      refine s_cIf (S := fS [(8, 2)] [(w_x2, [(38, 999)])]) T_78 (fs_sub (pmA_s hA rfl) (fs_c (pmO_s hO_x2 rfl) fs_n)) (zX7_readChecks (c := cat (nst c 5) (fS [(8, 2)] [(w_x2, [(38, 999)])]) o_22.2) hF (cat_m nst_s) fs_a (fs_o (.head _)) o_x2 (th_in _ T_78) r_x0 r_x2) (fun o_24 T_86 i_o_24 f_o_24 => ?_)
                      refine s_br (fun c_87 => ?_) (fun c_87 => ?_)
                      · have _ := c_87
                        have i_f_88 : Rg (0) (0) (o_24.1) := rg_eq c_87 (rg_b rfl : Rg (0) (0) (0 : Int32))
                        refine s_br (fun c_89 => ?_) (fun c_89 => ?_)
                        · have _ := c_89
                          have pf_90 : RyC ρ c h o_24.2 := (rc_fr (th_un T_78)  f_o_24 (fun _ => rfl) (fun _ _ => rfl) (fun _ => rfl) (rc_fr (th_un T_70)  f_o_22 (fun _ => rfl) (fun _ _ => rfl) (fun _ => rfl) (rc_fr (th_un T_62)  f_o_20 (fun _ => rfl) (fun _ _ => rfl) (fun _ => rfl) (rc_fr (th_un T_54)  f_o_18 (fun _ => rfl) (fun _ _ => rfl) (fun _ => rfl) (rc_fr (th_un T_46)  f_o_16 (fun _ => rfl) (fun _ _ => rfl) (fun _ => rfl) (rc_fr (th_un T_38)  f_o_14 (fun _ => rfl) (fun _ _ => rfl) (fun _ => rfl) (rc_fr (th_un T_30)  f_o_12 (fun _ => rfl) (fun _ _ => rfl) (fun _ => rfl) (rc_fr (th_un T_22)  f_o_10 (fun _ => rfl) (fun _ _ => rfl) (fun _ => rfl) (rc_fr (th_un T_14)  f_o_8 (fun _ => rfl) (fun _ _ => rfl) (fun _ => rfl) (rc_fr (th_un T_7)  f_o_6 (fun _ => rfl) (fun _ _ => rfl) (fun _ => rfl) (rc_t (rc_t (rc_fr (th_un T_1)  (fr1I (A := [(8, 2)]) r_x0 rfl w_4) (fun _ => rfl) (fun _ _ => rfl) (fun _ => rfl) (rc_fr T  (fr1R (A := [(8, 1)]) r_x0 rfl w_2) (fun _ => rfl) (fun _ _ => rfl) (fun _ => rfl) rc_0)) (rc_clear (th_un T_3) r_x2 eb_o_3).2.1) (show RyC ρ c o_3 o_4.2 from p_o_4.1))))))))))))
                          have pf_91 : NoM x2 o_24.2 := (nm_fr T_78 r_x2 f_o_24 rfl (fun _ => rfl) (nm_fr T_70 r_x2 f_o_22 rfl (fun _ => rfl) (nm_fr T_62 r_x2 f_o_20 rfl (fun _ => rfl) (nm_fr T_54 r_x2 f_o_18 rfl (fun _ => rfl) (nm_fr T_46 r_x2 f_o_16 rfl (fun _ => rfl) (nm_fr T_38 r_x2 f_o_14 rfl (fun _ => rfl) (nm_fr T_30 r_x2 f_o_12 rfl (fun _ => rfl) (nm_fr T_22 r_x2 f_o_10 rfl (fun _ => rfl) (nm_fr T_14 r_x2 f_o_8 rfl (fun _ => rfl) (nm_fr T_7 r_x2 f_o_6 rfl (fun _ => rfl) p_o_4.2))))))))))
                          have pf_92 : RyP ρ c x2 o_24.2 := (ry_fr (th_un T_78) r_x2 f_o_24 rfl (fun _ => rfl) (fun _ => rfl) (ry_fr (th_un T_70) r_x2 f_o_22 rfl (fun _ => rfl) (fun _ => rfl) (ry_fr (th_un T_62) r_x2 f_o_20 rfl (fun _ => rfl) (fun _ => rfl) (ry_fr (th_un T_54) r_x2 f_o_18 rfl (fun _ => rfl) (fun _ => rfl) (ry_fr (th_un T_46) r_x2 f_o_16 rfl (fun _ => rfl) (fun _ => rfl) (ry_fr (th_un T_38) r_x2 f_o_14 rfl (fun _ => rfl) (fun _ => rfl) (ry_fr (th_un T_30) r_x2 f_o_12 rfl (fun _ => rfl) (fun _ => rfl) (ry_fr (th_un T_22) r_x2 f_o_10 rfl (fun _ => rfl) (fun _ => rfl) (ry_fr (th_un T_14) r_x2 f_o_8 rfl (fun _ => rfl) (fun _ => rfl) (ry_fr (th_un T_7) r_x2 f_o_6 rfl (fun _ => rfl) (fun _ => rfl) ((show RyC ρ c o_3 o_4.2 from p_o_4.1) _ r_x2 (rc_clear (th_un T_3) r_x2 eb_o_3).1)))))))))))
                          exact s_some ⟨⟨(th_un (T_86)), (rg_m (thI T_86 r_x0 (k := 8) (i := 2) rfl : Rg (0) (1201) ((hI o_24.2 x0 2))) (by decide))⟩, ⟨pf_90, pf_91, pf_92⟩⟩
                        · have _ := c_89
                          exact (rc_ne c_89 (rg_b rfl : Rg (0) (0) ((0 : Int32))) (rg_b rfl : Rg (0) (0) (0 : Int32))).elim
                      · have _ := c_87
                        have i_f_93 : Rg (1) (1) (o_24.1) := rg_nlo c_87 i_o_24 (rg_b rfl : Rg (0) (0) (0 : Int32))
                        refine s_cIf (S := fS [(8, 2)] []) T_86 (fs_sub (pmA_s hA rfl) fs_n) (zX7_takeByte (c := cat (nst c 5) (fS [(8, 2)] []) o_24.2) hF (cat_m nst_s) fs_a (th_in _ T_86) r_x0 (rg_m (rg_b rfl : Rg (32) (32) ((32 : Int32))) (by decide))) (fun o_26 T_94 i_o_26 f_o_26 => ?_)
                        refine s_br (fun c_95 => ?_) (fun c_95 => ?_)
                        · have _ := c_95
                          have i_f_96 : Rg (0) (0) (o_26.1) := rg_eq c_95 (rg_b rfl : Rg (0) (0) (0 : Int32))
                          refine s_br (fun c_97 => ?_) (fun c_97 => ?_)
                          · have _ := c_97
                            have pf_98 : RyC ρ c h o_26.2 := (rc_fr (th_un T_86)  f_o_26 (fun _ => rfl) (fun _ _ => rfl) (fun _ => rfl) (rc_fr (th_un T_78)  f_o_24 (fun _ => rfl) (fun _ _ => rfl) (fun _ => rfl) (rc_fr (th_un T_70)  f_o_22 (fun _ => rfl) (fun _ _ => rfl) (fun _ => rfl) (rc_fr (th_un T_62)  f_o_20 (fun _ => rfl) (fun _ _ => rfl) (fun _ => rfl) (rc_fr (th_un T_54)  f_o_18 (fun _ => rfl) (fun _ _ => rfl) (fun _ => rfl) (rc_fr (th_un T_46)  f_o_16 (fun _ => rfl) (fun _ _ => rfl) (fun _ => rfl) (rc_fr (th_un T_38)  f_o_14 (fun _ => rfl) (fun _ _ => rfl) (fun _ => rfl) (rc_fr (th_un T_30)  f_o_12 (fun _ => rfl) (fun _ _ => rfl) (fun _ => rfl) (rc_fr (th_un T_22)  f_o_10 (fun _ => rfl) (fun _ _ => rfl) (fun _ => rfl) (rc_fr (th_un T_14)  f_o_8 (fun _ => rfl) (fun _ _ => rfl) (fun _ => rfl) (rc_fr (th_un T_7)  f_o_6 (fun _ => rfl) (fun _ _ => rfl) (fun _ => rfl) (rc_t (rc_t (rc_fr (th_un T_1)  (fr1I (A := [(8, 2)]) r_x0 rfl w_4) (fun _ => rfl) (fun _ _ => rfl) (fun _ => rfl) (rc_fr T  (fr1R (A := [(8, 1)]) r_x0 rfl w_2) (fun _ => rfl) (fun _ _ => rfl) (fun _ => rfl) rc_0)) (rc_clear (th_un T_3) r_x2 eb_o_3).2.1) (show RyC ρ c o_3 o_4.2 from p_o_4.1)))))))))))))
                            have pf_99 : NoM x2 o_26.2 := (nm_fr T_86 r_x2 f_o_26 rfl (fun _ => rfl) (nm_fr T_78 r_x2 f_o_24 rfl (fun _ => rfl) (nm_fr T_70 r_x2 f_o_22 rfl (fun _ => rfl) (nm_fr T_62 r_x2 f_o_20 rfl (fun _ => rfl) (nm_fr T_54 r_x2 f_o_18 rfl (fun _ => rfl) (nm_fr T_46 r_x2 f_o_16 rfl (fun _ => rfl) (nm_fr T_38 r_x2 f_o_14 rfl (fun _ => rfl) (nm_fr T_30 r_x2 f_o_12 rfl (fun _ => rfl) (nm_fr T_22 r_x2 f_o_10 rfl (fun _ => rfl) (nm_fr T_14 r_x2 f_o_8 rfl (fun _ => rfl) (nm_fr T_7 r_x2 f_o_6 rfl (fun _ => rfl) p_o_4.2)))))))))))
                            have pf_100 : RyP ρ c x2 o_26.2 := (ry_fr (th_un T_86) r_x2 f_o_26 rfl (fun _ => rfl) (fun _ => rfl) (ry_fr (th_un T_78) r_x2 f_o_24 rfl (fun _ => rfl) (fun _ => rfl) (ry_fr (th_un T_70) r_x2 f_o_22 rfl (fun _ => rfl) (fun _ => rfl) (ry_fr (th_un T_62) r_x2 f_o_20 rfl (fun _ => rfl) (fun _ => rfl) (ry_fr (th_un T_54) r_x2 f_o_18 rfl (fun _ => rfl) (fun _ => rfl) (ry_fr (th_un T_46) r_x2 f_o_16 rfl (fun _ => rfl) (fun _ => rfl) (ry_fr (th_un T_38) r_x2 f_o_14 rfl (fun _ => rfl) (fun _ => rfl) (ry_fr (th_un T_30) r_x2 f_o_12 rfl (fun _ => rfl) (fun _ => rfl) (ry_fr (th_un T_22) r_x2 f_o_10 rfl (fun _ => rfl) (fun _ => rfl) (ry_fr (th_un T_14) r_x2 f_o_8 rfl (fun _ => rfl) (fun _ => rfl) (ry_fr (th_un T_7) r_x2 f_o_6 rfl (fun _ => rfl) (fun _ => rfl) ((show RyC ρ c o_3 o_4.2 from p_o_4.1) _ r_x2 (rc_clear (th_un T_3) r_x2 eb_o_3).1))))))))))))
                            exact s_some ⟨⟨(th_un (T_94)), (rg_m (thI T_94 r_x0 (k := 8) (i := 2) rfl : Rg (0) (1201) ((hI o_26.2 x0 2))) (by decide))⟩, ⟨pf_98, pf_99, pf_100⟩⟩
                          · have _ := c_97
                            exact (rc_ne c_97 (rg_b rfl : Rg (0) (0) ((0 : Int32))) (rg_b rfl : Rg (0) (0) (0 : Int32))).elim
                        · have _ := c_95
                          have i_f_101 : Rg (1) (1) (o_26.1) := rg_nlo c_95 i_o_26 (rg_b rfl : Rg (0) (0) (0 : Int32))
                          refine s_cIf (S := fS [(8, 2)] [(w_x2, [(4, 6)])]) T_94 (fs_sub (pmA_s hA rfl) (fs_c (pmO_s hO_x2 rfl) fs_n)) (zX7_readClock (c := cat (nst c 5) (fS [(8, 2)] [(w_x2, [(4, 6)])]) o_26.2) hF (cat_m nst_s) fs_a (fs_o (.head _)) o_x2 (th_in _ T_94) r_x0 r_x2 (show (hI o_26.2 x2 6).toInt = 0 from (by have hq_ := ((thI T_94 r_x2 (k := 4) (i := 6) rfl : Rg (0) (999) ((hI o_26.2 x2 6))) : Rg (0) (999) ((hI o_26.2 x2 6))); have := hq_.1; have := hq_.2; have : (hI o_26.2 x2 6).toInt = (hI o_24.2 x2 6).toInt := congrArg Int32.toInt (fr_I f_o_26 r_x2 (by decide) o_x2 rfl); have : (hI o_24.2 x2 6).toInt = (hI o_22.2 x2 6).toInt := congrArg Int32.toInt (fr_I f_o_24 r_x2 (by decide) o_x2 rfl); have : (hI o_22.2 x2 6).toInt = (hI o_20.2 x2 6).toInt := congrArg Int32.toInt (fr_I f_o_22 r_x2 (by decide) o_x2 rfl); have : (hI o_20.2 x2 6).toInt = (hI o_18.2 x2 6).toInt := congrArg Int32.toInt (fr_I f_o_20 r_x2 (by decide) o_x2 rfl); have : (hI o_18.2 x2 6).toInt = (hI o_16.2 x2 6).toInt := congrArg Int32.toInt (fr_I f_o_18 r_x2 (by decide) o_x2 rfl); have : (hI o_16.2 x2 6).toInt = (hI o_14.2 x2 6).toInt := congrArg Int32.toInt (fr_I f_o_16 r_x2 (by decide) o_x2 rfl); have : (hI o_14.2 x2 6).toInt = (hI o_12.2 x2 6).toInt := congrArg Int32.toInt (fr_I f_o_14 r_x2 (by decide) o_x2 rfl); have : (hI o_12.2 x2 6).toInt = (hI o_10.2 x2 6).toInt := congrArg Int32.toInt (fr_I f_o_12 r_x2 (by decide) o_x2 rfl); have : (hI o_10.2 x2 6).toInt = (hI o_8.2 x2 6).toInt := congrArg Int32.toInt (fr_I f_o_10 r_x2 (by decide) o_x2 rfl); have : (hI o_8.2 x2 6).toInt = (hI o_6.2 x2 6).toInt := congrArg Int32.toInt (fr_I f_o_8 r_x2 (by decide) o_x2 rfl); have : (hI o_6.2 x2 6).toInt = (hI o_4.2 x2 6).toInt := congrArg Int32.toInt (fr_I f_o_6 r_x2 (by decide) o_x2 rfl); have : (hI o_4.2 x2 6).toInt = (hI o_3 x2 6).toInt := congrArg Int32.toInt (fr_I f_o_4 r_x2 (by decide) o_x2 rfl); clear o_x1 o_x2; omega))) (fun o_28 T_102 i_o_28 f_o_28 => ?_)
                          refine s_br (fun c_103 => ?_) (fun c_103 => ?_)
                          · have _ := c_103
                            have i_f_104 : Rg (0) (0) (o_28.1) := rg_eq c_103 (rg_b rfl : Rg (0) (0) (0 : Int32))
                            refine s_br (fun c_105 => ?_) (fun c_105 => ?_)
                            · have _ := c_105
                              have pf_106 : RyC ρ c h o_28.2 := (rc_fr (th_un T_94)  f_o_28 (fun _ => rfl) (fun _ _ => rfl) (fun _ => rfl) (rc_fr (th_un T_86)  f_o_26 (fun _ => rfl) (fun _ _ => rfl) (fun _ => rfl) (rc_fr (th_un T_78)  f_o_24 (fun _ => rfl) (fun _ _ => rfl) (fun _ => rfl) (rc_fr (th_un T_70)  f_o_22 (fun _ => rfl) (fun _ _ => rfl) (fun _ => rfl) (rc_fr (th_un T_62)  f_o_20 (fun _ => rfl) (fun _ _ => rfl) (fun _ => rfl) (rc_fr (th_un T_54)  f_o_18 (fun _ => rfl) (fun _ _ => rfl) (fun _ => rfl) (rc_fr (th_un T_46)  f_o_16 (fun _ => rfl) (fun _ _ => rfl) (fun _ => rfl) (rc_fr (th_un T_38)  f_o_14 (fun _ => rfl) (fun _ _ => rfl) (fun _ => rfl) (rc_fr (th_un T_30)  f_o_12 (fun _ => rfl) (fun _ _ => rfl) (fun _ => rfl) (rc_fr (th_un T_22)  f_o_10 (fun _ => rfl) (fun _ _ => rfl) (fun _ => rfl) (rc_fr (th_un T_14)  f_o_8 (fun _ => rfl) (fun _ _ => rfl) (fun _ => rfl) (rc_fr (th_un T_7)  f_o_6 (fun _ => rfl) (fun _ _ => rfl) (fun _ => rfl) (rc_t (rc_t (rc_fr (th_un T_1)  (fr1I (A := [(8, 2)]) r_x0 rfl w_4) (fun _ => rfl) (fun _ _ => rfl) (fun _ => rfl) (rc_fr T  (fr1R (A := [(8, 1)]) r_x0 rfl w_2) (fun _ => rfl) (fun _ _ => rfl) (fun _ => rfl) rc_0)) (rc_clear (th_un T_3) r_x2 eb_o_3).2.1) (show RyC ρ c o_3 o_4.2 from p_o_4.1))))))))))))))
                              have pf_107 : NoM x2 o_28.2 := (nm_fr T_94 r_x2 f_o_28 rfl (fun _ => rfl) (nm_fr T_86 r_x2 f_o_26 rfl (fun _ => rfl) (nm_fr T_78 r_x2 f_o_24 rfl (fun _ => rfl) (nm_fr T_70 r_x2 f_o_22 rfl (fun _ => rfl) (nm_fr T_62 r_x2 f_o_20 rfl (fun _ => rfl) (nm_fr T_54 r_x2 f_o_18 rfl (fun _ => rfl) (nm_fr T_46 r_x2 f_o_16 rfl (fun _ => rfl) (nm_fr T_38 r_x2 f_o_14 rfl (fun _ => rfl) (nm_fr T_30 r_x2 f_o_12 rfl (fun _ => rfl) (nm_fr T_22 r_x2 f_o_10 rfl (fun _ => rfl) (nm_fr T_14 r_x2 f_o_8 rfl (fun _ => rfl) (nm_fr T_7 r_x2 f_o_6 rfl (fun _ => rfl) p_o_4.2))))))))))))
                              have pf_108 : RyP ρ c x2 o_28.2 := (ry_fr (th_un T_94) r_x2 f_o_28 rfl (fun _ => rfl) (fun _ => rfl) (ry_fr (th_un T_86) r_x2 f_o_26 rfl (fun _ => rfl) (fun _ => rfl) (ry_fr (th_un T_78) r_x2 f_o_24 rfl (fun _ => rfl) (fun _ => rfl) (ry_fr (th_un T_70) r_x2 f_o_22 rfl (fun _ => rfl) (fun _ => rfl) (ry_fr (th_un T_62) r_x2 f_o_20 rfl (fun _ => rfl) (fun _ => rfl) (ry_fr (th_un T_54) r_x2 f_o_18 rfl (fun _ => rfl) (fun _ => rfl) (ry_fr (th_un T_46) r_x2 f_o_16 rfl (fun _ => rfl) (fun _ => rfl) (ry_fr (th_un T_38) r_x2 f_o_14 rfl (fun _ => rfl) (fun _ => rfl) (ry_fr (th_un T_30) r_x2 f_o_12 rfl (fun _ => rfl) (fun _ => rfl) (ry_fr (th_un T_22) r_x2 f_o_10 rfl (fun _ => rfl) (fun _ => rfl) (ry_fr (th_un T_14) r_x2 f_o_8 rfl (fun _ => rfl) (fun _ => rfl) (ry_fr (th_un T_7) r_x2 f_o_6 rfl (fun _ => rfl) (fun _ => rfl) ((show RyC ρ c o_3 o_4.2 from p_o_4.1) _ r_x2 (rc_clear (th_un T_3) r_x2 eb_o_3).1)))))))))))))
                              exact s_some ⟨⟨(th_un (T_102)), (rg_m (thI T_102 r_x0 (k := 8) (i := 2) rfl : Rg (0) (1201) ((hI o_28.2 x0 2))) (by decide))⟩, ⟨pf_106, pf_107, pf_108⟩⟩
                            · have _ := c_105
                              exact (rc_ne c_105 (rg_b rfl : Rg (0) (0) ((0 : Int32))) (rg_b rfl : Rg (0) (0) (0 : Int32))).elim
                          · have _ := c_103
                            have i_f_109 : Rg (1) (1) (o_28.1) := rg_nlo c_103 i_o_28 (rg_b rfl : Rg (0) (0) (0 : Int32))
                            obtain ⟨r_30, e_r_30, q_r_30⟩ := thM T_102 r_x0 (k := 8) (i := 1) (j := 5) (k2 := 10) rfl (by decide) rfl (by decide) nst_s
                            refine s_ref e_r_30 ?_
                            refine s_dP0 (zX9_byteAt (c := (nst c 5)) hF T_102 q_r_30 (rg_m (thI T_102 r_x0 (k := 8) (i := 2) rfl : Rg (0) (1201) ((hI o_28.2 x0 2))) (by decide))) (fun o_31 eb_o_31 e_o_31 i_o_31 p_o_31 => ?_)
                            have T_110 := th_eq e_o_31 T_102
                            refine s_br (fun c_111 => ?_) (fun c_111 => ?_)
                            · have _ := c_111
                              have i_f_112 : Rg (-1) (-1) (o_31.1) := rg_eq c_111 (rg_b rfl : Rg (-1) (-1) ((- 1 : Int32)))
                              refine s_br (fun c_113 => ?_) (fun c_113 => ?_)
                              · have _ := c_113
                                exact (rc_eq c_113 (rg_b rfl : Rg (1) (1) ((1 : Int32))) (rg_b rfl : Rg (0) (0) (0 : Int32)) (by decide)).elim
                              · have _ := c_113
                                have pf_114 : RyC ρ c h o_31.2 := (by rw [e_o_31]; exact (rc_fr (th_un T_94)  f_o_28 (fun _ => rfl) (fun _ _ => rfl) (fun _ => rfl) (rc_fr (th_un T_86)  f_o_26 (fun _ => rfl) (fun _ _ => rfl) (fun _ => rfl) (rc_fr (th_un T_78)  f_o_24 (fun _ => rfl) (fun _ _ => rfl) (fun _ => rfl) (rc_fr (th_un T_70)  f_o_22 (fun _ => rfl) (fun _ _ => rfl) (fun _ => rfl) (rc_fr (th_un T_62)  f_o_20 (fun _ => rfl) (fun _ _ => rfl) (fun _ => rfl) (rc_fr (th_un T_54)  f_o_18 (fun _ => rfl) (fun _ _ => rfl) (fun _ => rfl) (rc_fr (th_un T_46)  f_o_16 (fun _ => rfl) (fun _ _ => rfl) (fun _ => rfl) (rc_fr (th_un T_38)  f_o_14 (fun _ => rfl) (fun _ _ => rfl) (fun _ => rfl) (rc_fr (th_un T_30)  f_o_12 (fun _ => rfl) (fun _ _ => rfl) (fun _ => rfl) (rc_fr (th_un T_22)  f_o_10 (fun _ => rfl) (fun _ _ => rfl) (fun _ => rfl) (rc_fr (th_un T_14)  f_o_8 (fun _ => rfl) (fun _ _ => rfl) (fun _ => rfl) (rc_fr (th_un T_7)  f_o_6 (fun _ => rfl) (fun _ _ => rfl) (fun _ => rfl) (rc_t (rc_t (rc_fr (th_un T_1)  (fr1I (A := [(8, 2)]) r_x0 rfl w_4) (fun _ => rfl) (fun _ _ => rfl) (fun _ => rfl) (rc_fr T  (fr1R (A := [(8, 1)]) r_x0 rfl w_2) (fun _ => rfl) (fun _ _ => rfl) (fun _ => rfl) rc_0)) (rc_clear (th_un T_3) r_x2 eb_o_3).2.1) (show RyC ρ c o_3 o_4.2 from p_o_4.1)))))))))))))))
                                have pf_115 : NoM x2 o_31.2 := (by rw [e_o_31]; exact (nm_fr T_94 r_x2 f_o_28 rfl (fun _ => rfl) (nm_fr T_86 r_x2 f_o_26 rfl (fun _ => rfl) (nm_fr T_78 r_x2 f_o_24 rfl (fun _ => rfl) (nm_fr T_70 r_x2 f_o_22 rfl (fun _ => rfl) (nm_fr T_62 r_x2 f_o_20 rfl (fun _ => rfl) (nm_fr T_54 r_x2 f_o_18 rfl (fun _ => rfl) (nm_fr T_46 r_x2 f_o_16 rfl (fun _ => rfl) (nm_fr T_38 r_x2 f_o_14 rfl (fun _ => rfl) (nm_fr T_30 r_x2 f_o_12 rfl (fun _ => rfl) (nm_fr T_22 r_x2 f_o_10 rfl (fun _ => rfl) (nm_fr T_14 r_x2 f_o_8 rfl (fun _ => rfl) (nm_fr T_7 r_x2 f_o_6 rfl (fun _ => rfl) p_o_4.2)))))))))))))
                                have pf_116 : RyP ρ c x2 o_31.2 := (by rw [e_o_31]; exact (ry_fr (th_un T_94) r_x2 f_o_28 rfl (fun _ => rfl) (fun _ => rfl) (ry_fr (th_un T_86) r_x2 f_o_26 rfl (fun _ => rfl) (fun _ => rfl) (ry_fr (th_un T_78) r_x2 f_o_24 rfl (fun _ => rfl) (fun _ => rfl) (ry_fr (th_un T_70) r_x2 f_o_22 rfl (fun _ => rfl) (fun _ => rfl) (ry_fr (th_un T_62) r_x2 f_o_20 rfl (fun _ => rfl) (fun _ => rfl) (ry_fr (th_un T_54) r_x2 f_o_18 rfl (fun _ => rfl) (fun _ => rfl) (ry_fr (th_un T_46) r_x2 f_o_16 rfl (fun _ => rfl) (fun _ => rfl) (ry_fr (th_un T_38) r_x2 f_o_14 rfl (fun _ => rfl) (fun _ => rfl) (ry_fr (th_un T_30) r_x2 f_o_12 rfl (fun _ => rfl) (fun _ => rfl) (ry_fr (th_un T_22) r_x2 f_o_10 rfl (fun _ => rfl) (fun _ => rfl) (ry_fr (th_un T_14) r_x2 f_o_8 rfl (fun _ => rfl) (fun _ => rfl) (ry_fr (th_un T_7) r_x2 f_o_6 rfl (fun _ => rfl) (fun _ => rfl) ((show RyC ρ c o_3 o_4.2 from p_o_4.1) _ r_x2 (rc_clear (th_un T_3) r_x2 eb_o_3).1))))))))))))))
                                exact s_some ⟨⟨(th_un (T_110)), (rg_m (rg_b rfl : Rg (-1) (-1) ((- 1 : Int32))) (by decide))⟩, ⟨pf_114, pf_115, pf_116⟩⟩
                            · have _ := c_111
                              have i_f_117 : Rg (0) (255) (o_31.1) := rg_nlo c_111 i_o_31 (rg_b rfl : Rg (-1) (-1) ((- 1 : Int32)))
                              have p_f_118 := p_o_31 c_111
                              refine s_br (fun c_119 => ?_) (fun c_119 => ?_)
                              · have _ := c_119
                                have pf_120 : RyC ρ c h o_31.2 := (by rw [e_o_31]; exact (rc_fr (th_un T_94)  f_o_28 (fun _ => rfl) (fun _ _ => rfl) (fun _ => rfl) (rc_fr (th_un T_86)  f_o_26 (fun _ => rfl) (fun _ _ => rfl) (fun _ => rfl) (rc_fr (th_un T_78)  f_o_24 (fun _ => rfl) (fun _ _ => rfl) (fun _ => rfl) (rc_fr (th_un T_70)  f_o_22 (fun _ => rfl) (fun _ _ => rfl) (fun _ => rfl) (rc_fr (th_un T_62)  f_o_20 (fun _ => rfl) (fun _ _ => rfl) (fun _ => rfl) (rc_fr (th_un T_54)  f_o_18 (fun _ => rfl) (fun _ _ => rfl) (fun _ => rfl) (rc_fr (th_un T_46)  f_o_16 (fun _ => rfl) (fun _ _ => rfl) (fun _ => rfl) (rc_fr (th_un T_38)  f_o_14 (fun _ => rfl) (fun _ _ => rfl) (fun _ => rfl) (rc_fr (th_un T_30)  f_o_12 (fun _ => rfl) (fun _ _ => rfl) (fun _ => rfl) (rc_fr (th_un T_22)  f_o_10 (fun _ => rfl) (fun _ _ => rfl) (fun _ => rfl) (rc_fr (th_un T_14)  f_o_8 (fun _ => rfl) (fun _ _ => rfl) (fun _ => rfl) (rc_fr (th_un T_7)  f_o_6 (fun _ => rfl) (fun _ _ => rfl) (fun _ => rfl) (rc_t (rc_t (rc_fr (th_un T_1)  (fr1I (A := [(8, 2)]) r_x0 rfl w_4) (fun _ => rfl) (fun _ _ => rfl) (fun _ => rfl) (rc_fr T  (fr1R (A := [(8, 1)]) r_x0 rfl w_2) (fun _ => rfl) (fun _ _ => rfl) (fun _ => rfl) rc_0)) (rc_clear (th_un T_3) r_x2 eb_o_3).2.1) (show RyC ρ c o_3 o_4.2 from p_o_4.1)))))))))))))))
                                have pf_121 : NoM x2 o_31.2 := (by rw [e_o_31]; exact (nm_fr T_94 r_x2 f_o_28 rfl (fun _ => rfl) (nm_fr T_86 r_x2 f_o_26 rfl (fun _ => rfl) (nm_fr T_78 r_x2 f_o_24 rfl (fun _ => rfl) (nm_fr T_70 r_x2 f_o_22 rfl (fun _ => rfl) (nm_fr T_62 r_x2 f_o_20 rfl (fun _ => rfl) (nm_fr T_54 r_x2 f_o_18 rfl (fun _ => rfl) (nm_fr T_46 r_x2 f_o_16 rfl (fun _ => rfl) (nm_fr T_38 r_x2 f_o_14 rfl (fun _ => rfl) (nm_fr T_30 r_x2 f_o_12 rfl (fun _ => rfl) (nm_fr T_22 r_x2 f_o_10 rfl (fun _ => rfl) (nm_fr T_14 r_x2 f_o_8 rfl (fun _ => rfl) (nm_fr T_7 r_x2 f_o_6 rfl (fun _ => rfl) p_o_4.2)))))))))))))
                                have pf_122 : RyP ρ c x2 o_31.2 := (by rw [e_o_31]; exact (ry_fr (th_un T_94) r_x2 f_o_28 rfl (fun _ => rfl) (fun _ => rfl) (ry_fr (th_un T_86) r_x2 f_o_26 rfl (fun _ => rfl) (fun _ => rfl) (ry_fr (th_un T_78) r_x2 f_o_24 rfl (fun _ => rfl) (fun _ => rfl) (ry_fr (th_un T_70) r_x2 f_o_22 rfl (fun _ => rfl) (fun _ => rfl) (ry_fr (th_un T_62) r_x2 f_o_20 rfl (fun _ => rfl) (fun _ => rfl) (ry_fr (th_un T_54) r_x2 f_o_18 rfl (fun _ => rfl) (fun _ => rfl) (ry_fr (th_un T_46) r_x2 f_o_16 rfl (fun _ => rfl) (fun _ => rfl) (ry_fr (th_un T_38) r_x2 f_o_14 rfl (fun _ => rfl) (fun _ => rfl) (ry_fr (th_un T_30) r_x2 f_o_12 rfl (fun _ => rfl) (fun _ => rfl) (ry_fr (th_un T_22) r_x2 f_o_10 rfl (fun _ => rfl) (fun _ => rfl) (ry_fr (th_un T_14) r_x2 f_o_8 rfl (fun _ => rfl) (fun _ => rfl) (ry_fr (th_un T_7) r_x2 f_o_6 rfl (fun _ => rfl) (fun _ => rfl) ((show RyC ρ c o_3 o_4.2 from p_o_4.1) _ r_x2 (rc_clear (th_un T_3) r_x2 eb_o_3).1))))))))))))))
                                exact s_some ⟨⟨(th_un (T_110)), (rg_m ((rg_he e_o_31 p_f_118) : Rg (0) (1199) ((hI o_31.2 x0 2))) (by decide))⟩, ⟨pf_120, pf_121, pf_122⟩⟩
                              · have _ := c_119
                                exact (rc_ne c_119 (rg_b rfl : Rg (0) (0) ((0 : Int32))) (rg_b rfl : Rg (0) (0) (0 : Int32))).elim
set_option maxRecDepth 20000 in
theorem zX11_position_75 {ρ : Nat → Nat} {c : Cm} {F : Nat} (hF : 700000 ≤ F) (hA : pmA c [(58, 999)]) (hi_2100 : pmO c 2100 [(10, 1)]) {h : Hp} {x0 : Nat} {x1 : Int32} {x4 : Int32} {x5 : Int32} {t0 : Int32} {t1 : Int32} {t2 : Nat} (T : TH ρ c h) (r_x0 : ρ x0 = 12) (i_x1 : Rg (0) (59) (x1)) (i_x4 : Rg (-1) (1201) (x4)) (i_x5 : Rg (0) (8) (x5)) (i_t0 : Rg (0) (1) (t0)) (i_t1 : Rg (0) (59) (t1)) (r_t2 : ρ t2 = 58) (lw : (LwR ρ c h)) : Sat (sX11_position_75 F h x0 x1 x4 x5 t0 t1 t2) (ZI ρ c (-1401) (59)) := by
  unfold sX11_position_75 sX11_position_103 sX11_position_104
  refine s_gd (by rw [thN T r_t2 (k := 58) (n := 60) rfl (by decide)]; exact rg_inB (i_t1 : Rg (0) (59) (t1)) (by decide)) ?_
  refine s_hq (th_wI T r_t2 (k := 58) (lo := (0)) (hi := (1)) rfl ((rg_narz _ : Rg (0) (1) ((vp_nar .boolean t0))) : Rg (0) (1) ((vp_nar .boolean t0))) (by decide) (by decide) (pm_a hA rfl)) (fun h_2 T_1 w_2 => ?_)
  refine s_br (fun c_3 => ?_) (fun c_3 => ?_)
  · have _ := c_3
    have i_f_4 : Rg (-1) (-1) (x4) := rg_eq c_3 (rg_b rfl : Rg (-1) (-1) ((- 1 : Int32)))
    refine s_br (fun c_5 => ?_) (fun c_5 => ?_)
    · have _ := c_5
      have i_f_6 : Rg (0) (0) (x5) := rg_eq c_5 (rg_b rfl : Rg (0) (0) (0 : Int32))
      obtain ⟨r_1q2, e_r_1q2, q_r_1q2⟩ := thR T_1 r_x0 (k := 12) (i := 0) (k2 := 10) rfl (by decide)
      refine s_ref e_r_1q2 ?_
      refine s_cV (zX9_clear hF (pmO_e (th_id T_1 r_x0 (k := 12) (i := 0) (w := 2100) e_r_1q2 rfl (by decide)) hi_2100 rfl) T_1 q_r_1q2) (fun o_2q2 T_7 => ?_)
      exact s_some ⟨(T_7), (rg_m i_x1 (by decide))⟩
    · have _ := c_5
      have i_f_8 : Rg (1) (8) (x5) := rg_nlo c_5 i_x5 (rg_b rfl : Rg (0) (0) (0 : Int32))
      obtain ⟨r_1q4, e_r_1q4, q_r_1q4⟩ := thR T_1 r_x0 (k := 12) (i := 0) (k2 := 10) rfl (by decide)
      refine s_ref e_r_1q4 ?_
      refine s_cV (zX9_clear hF (pmO_e (th_id T_1 r_x0 (k := 12) (i := 0) (w := 2100) e_r_1q4 rfl (by decide)) hi_2100 rfl) T_1 q_r_1q4) (fun o_2q4 T_9 => ?_)
      exact s_some ⟨(T_9), (rg_m (rg_neg i_f_8 (by decide) : Rg (-8) (-1) ((- x5))) (by decide))⟩
  · have _ := c_3
    have i_f_10 : Rg (0) (1201) (x4) := rg_nlo c_3 i_x4 (rg_b rfl : Rg (-1) (-1) ((- 1 : Int32)))
    obtain ⟨r_1q6, e_r_1q6, q_r_1q6⟩ := thR T_1 r_x0 (k := 12) (i := 0) (k2 := 10) rfl (by decide)
    refine s_ref e_r_1q6 ?_
    refine s_cV (zX9_clear hF (pmO_e (th_id T_1 r_x0 (k := 12) (i := 0) (w := 2100) e_r_1q6 rfl (by decide)) hi_2100 rfl) T_1 q_r_1q6) (fun o_2q6 T_11 => ?_)
    exact s_some ⟨(T_11), (rg_m (rg_sub (rg_b rfl : Rg (-200) (-200) ((- 200 : Int32))) i_f_10 (by decide) : Rg (-1401) (-200) (((- 200 : Int32) - x4))) (by decide))⟩
set_option maxRecDepth 20000 in
theorem zX11_position_52 {ρ : Nat → Nat} {c : Cm} {F : Nat} (hF : 700000 ≤ F) (hA : pmA c [(58, 999)]) (hi_2100 : pmO c 2100 [(10, 1)]) {h : Hp} {x0 : Nat} {x1 : Int32} {x4 : Int32} {t0 : Int32} (T : TH ρ c h) (r_x0 : ρ x0 = 12) (i_x1 : Rg (0) (59) (x1)) (i_x4 : Rg (-1) (1201) (x4)) (i_t0 : Rg (0) (8) (t0)) (lw : (LwR ρ c h)) : Sat (sX11_position_52 F h x0 x1 x4 t0) (ZI ρ c (-1401) (59)) := by
  unfold sX11_position_52 sX11_position_74
  obtain ⟨r_1, e_r_1, q_r_1⟩ := thR T r_x0 (k := 12) (i := 14) (k2 := 58) rfl (by decide)
  refine s_ref e_r_1 ?_
  refine s_br (fun c_1 => ?_) (fun c_1 => ?_)
  · have _ := c_1
    have i_f_2 : Rg (-1) (-1) (x4) := rg_eq c_1 (rg_b rfl : Rg (-1) (-1) ((- 1 : Int32)))
    refine s_br (fun c_3 => ?_) (fun c_3 => ?_)
    · have _ := c_3
      have i_f_4 : Rg (0) (0) (t0) := rg_eq c_3 (rg_b rfl : Rg (0) (0) (0 : Int32))
      exact zX11_position_75 hF (pmA_s hA rfl) (pmO_s hi_2100 rfl) T r_x0 i_x1 (rg_m i_f_2 (by decide)) (rg_m i_f_4 (by decide)) (rg_m (rg_b rfl : Rg (1) (1) ((1 : Int32))) (by decide)) i_x1 q_r_1 lw
    · have _ := c_3
      have i_f_5 : Rg (1) (8) (t0) := rg_nlo c_3 i_t0 (rg_b rfl : Rg (0) (0) (0 : Int32))
      exact zX11_position_75 hF (pmA_s hA rfl) (pmO_s hi_2100 rfl) T r_x0 i_x1 (rg_m i_f_2 (by decide)) (rg_m i_f_5 (by decide)) (rg_m (rg_b rfl : Rg (0) (0) ((0 : Int32))) (by decide)) i_x1 q_r_1 lw
  · have _ := c_1
    have i_f_6 : Rg (0) (1201) (x4) := rg_nlo c_1 i_x4 (rg_b rfl : Rg (-1) (-1) ((- 1 : Int32)))
    exact zX11_position_75 hF (pmA_s hA rfl) (pmO_s hi_2100 rfl) T r_x0 i_x1 (rg_m i_f_6 (by decide)) i_t0 (rg_m (rg_b rfl : Rg (0) (0) ((0 : Int32))) (by decide)) i_x1 q_r_1 lw
set_option maxRecDepth 20000 in
theorem zX11_position {ρ : Nat → Nat} {c : Cm} {F : Nat} (hF : 700000 ≤ F) (hA : pmA c [(58, 999), (8, 1), (8, 2)]) (hi_2100 : pmO c 2100 [(10, 1)]) (hi_3200 : pmO c 3200 [(34, 999), (35, 999), (36, 999), (37, 999), (38, 999), (4, 5), (4, 6), (4, 7), (4, 8), (4, 9), (4, 10)]) {h : Hp} {x0 : Nat} (T : TH ρ c h) (r_x0 : ρ x0 = 12) (lw : (LwR ρ c h)) : Sat (sX11_position F h x0) (ZI ρ c (-1401) (59)) := by
  unfold sX11_position sX11_position_104
  refine s_dI0 (zX11_freePlace hF T r_x0) (fun o_1 eb_o_1 e_o_1 i_o_1 => ?_)
  have T_1 := th_eq e_o_1 T
  refine s_br (fun c_2 => ?_) (fun c_2 => ?_)
  · have _ := c_2
    have i_f_3 : Rg (-1) (-1) (o_1.1) := rg_eq c_2 (rg_b rfl : Rg (-1) (-1) ((- 1 : Int32)))
    obtain ⟨r_1q1, e_r_1q1, q_r_1q1⟩ := thR T_1 r_x0 (k := 12) (i := 0) (k2 := 10) rfl (by decide)
    refine s_ref e_r_1q1 ?_
    refine s_cV (zX9_clear hF (pmO_e (th_id T_1 r_x0 (k := 12) (i := 0) (w := 2100) e_r_1q1 rfl (by decide)) hi_2100 rfl) T_1 q_r_1q1) (fun o_2q1 T_4 => ?_)
    exact s_some ⟨(T_4), (rg_m (rg_b rfl : Rg (-104) (-104) ((- 104 : Int32))) (by decide))⟩
  · have _ := c_2
    have i_f_5 : Rg (0) (59) (o_1.1) := rg_nlo c_2 i_o_1 (rg_b rfl : Rg (-1) (-1) ((- 1 : Int32)))
    obtain ⟨r_3, e_r_3, q_r_3⟩ := thR T_1 r_x0 (k := 12) (i := 13) (k2 := 57) rfl (by decide)
    refine s_ref e_r_3 ?_
    refine s_gd (by rw [thN T_1 q_r_3 (k := 57) (n := 60) rfl (by decide)]; exact rg_inB (i_f_5 : Rg (0) (59) (o_1.1)) (by decide)) ?_
    obtain ⟨r_5, e_r_5, q_r_5⟩ := thE T_1 q_r_3 (k := 57) (n := 60) (k2 := 4) (b := 59) (i_f_5 : Rg (0) (59) (o_1.1)) (by decide) (by decide) (by decide)
    refine s_ref e_r_5 ?_
    obtain ⟨r_6, e_r_6, q_r_6⟩ := thR T_1 r_x0 (k := 12) (i := 7) (k2 := 8) rfl (by decide)
    refine s_ref e_r_6 ?_
    obtain ⟨r_7, e_r_7, q_r_7⟩ := thR T_1 r_x0 (k := 12) (i := 0) (k2 := 10) rfl (by decide)
    refine s_ref e_r_7 ?_
    have pf_6 : LwR ρ c o_1.2 := (by rw [e_o_1]; exact lw)
    refine s_cIfq (S := fS [(8, 1), (8, 2)] [(3200, [(34, 999), (35, 999), (36, 999), (37, 999), (38, 999), (4, 5), (4, 6), (4, 7), (4, 8), (4, 9), (4, 10)])]) T_1 (fs_sub (pmA_s hA rfl) (fs_c (pmO_s hi_3200 rfl) fs_n)) (zX7_read hF fs_a (fs_o (.head _)) (th_id T_1 r_x0 (k := 12) (i := 0) (w := 2100) e_r_7 rfl (by decide)) (th_id T_1 q_r_3 (k := 57) (w := 3200) e_r_5 rfl (by decide)) (th_in _ T_1) q_r_6 q_r_7 q_r_5 pf_6) (fun o_8 T_7 i_o_8 f_o_8 p_o_8 => ?_)
    refine s_br (fun c_8 => ?_) (fun c_8 => ?_)
    · have _ := c_8
      have i_f_9 : Rg (-1) (-1) (o_8.1) := rg_eq c_8 (rg_b rfl : Rg (-1) (-1) ((- 1 : Int32)))
      obtain ⟨r_10, e_r_10, q_r_10⟩ := thR T_7 r_x0 (k := 12) (i := 6) (k2 := 6) rfl (by decide)
      refine s_ref e_r_10 ?_
      refine s_dI0 (zX5_faultOf hF T_7 q_r_10 q_r_5 (Or.inr p_o_8.2.1)) (fun o_11 eb_o_11 e_o_11 i_o_11 => ?_)
      have T_10 := th_eq e_o_11 T_7
      have pf_11 : LwR ρ c o_11.2 := (by rw [e_o_11]; exact (lw_fr T_1  f_o_8 (fun _ => rfl) (fun _ => rfl) (fun _ => rfl) pf_6))
      exact zX11_position_52 hF (pmA_s hA rfl) (pmO_s hi_2100 rfl) T_10 r_x0 i_f_5 (rg_m i_f_9 (by decide)) i_o_11 pf_11
    · have _ := c_8
      have i_f_12 : Rg (0) (1201) (o_8.1) := rg_nlo c_8 i_o_8 (rg_b rfl : Rg (-1) (-1) ((- 1 : Int32)))
      have pf_13 : LwR ρ c o_8.2 := (lw_fr T_1  f_o_8 (fun _ => rfl) (fun _ => rfl) (fun _ => rfl) pf_6)
      exact zX11_position_52 hF (pmA_s hA rfl) (pmO_s hi_2100 rfl) T_7 r_x0 i_f_5 (rg_m i_f_12 (by decide)) (rg_m (rg_b rfl : Rg (0) (0) ((0 : Int32))) (by decide)) pf_13
set_option maxRecDepth 20000 in
theorem zX4_keep_79 {ρ : Nat → Nat} {c : Cm} {F : Nat} (hF : 700000 ≤ F) (hA : pmA c [(46, 999), (5, 15)]) {h : Hp} {x0 : Nat} {t0 : Int32} {t1 : Nat} (T : TH ρ c h) (r_x0 : ρ x0 = 5) (i_t0 : Rg (0) (4096) (t0)) (r_t1 : ρ t1 = 5) : Sat (sX4_keep_79 F h x0 t0 t1) (ZV ρ c) := by
  unfold sX4_keep_79 
  refine s_hq (th_wI T r_t1 (k := 5) (lo := (0)) (hi := (4096)) rfl (i_t0 : Rg (0) (4096) (t0)) (by decide) (by decide) (pm_a hA rfl)) (fun h_1 T_1 w_2 => ?_)
  obtain ⟨r_2, e_r_2, q_r_2⟩ := thR T_1 r_x0 (k := 5) (i := 11) (k2 := 44) rfl (by decide)
  refine s_ref e_r_2 ?_
  obtain ⟨r_3, e_r_3, q_r_3⟩ := thR T_1 r_x0 (k := 5) (i := 13) (k2 := 46) rfl (by decide)
  refine s_ref e_r_3 ?_
  refine s_gd (rg_nneg ((rg_m (rg_b rfl : Rg (0) (0) ((0 : Int32))) (by decide)) : Rg (0) (2147483647) ((0 : Int32))) (by decide)) ?_
  refine s_gd (rg_nneg ((rg_m (rg_b rfl : Rg (0) (0) ((0 : Int32))) (by decide)) : Rg (0) (2147483647) ((0 : Int32))) (by decide)) ?_
  refine s_gd (rg_nneg ((rg_m (thI T_1 r_x0 (k := 5) (i := 15) rfl : Rg (0) (4096) ((hI h_1 x0 15))) (by decide)) : Rg (0) (2147483647) ((hI h_1 x0 15))) (by decide)) ?_
  refine s_gd (g_len (rg_b rfl : Rg (0) (0) ((0 : Int32))) (thI T_1 r_x0 (k := 5) (i := 15) rfl : Rg (0) (4096) ((hI h_1 x0 15))) (thN T_1 q_r_2 (k := 44) (n := 4096) rfl (by decide)) (by decide)) ?_
  refine s_gd (g_len (rg_b rfl : Rg (0) (0) ((0 : Int32))) (thI T_1 r_x0 (k := 5) (i := 15) rfl : Rg (0) (4096) ((hI h_1 x0 15))) (thN T_1 q_r_3 (k := 46) (n := 4096) rfl (by decide)) (by decide)) ?_
  refine s_hq (th_cpI T_1 q_r_2 q_r_3 (k0 := 44) (k := 46) (lo0 := (-2147483648)) (hi0 := (2147483647)) (lo := (-2147483648)) (hi := (2147483647)) (fun _ => rfl) (fun _ => rfl) (by decide) (by decide) (by decide) (fun _ => (pm_a hA rfl))) (fun h_9 T_3 w_4 => ?_)
  exact s_some (T_3)
set_option maxRecDepth 20000 in
theorem zX4_keep_12 {ρ : Nat → Nat} {c : Cm} {F : Nat} (hF : 700000 ≤ F) (hA : pmA c [(45, 999), (46, 999), (5, 14), (5, 15)]) : ∀ (f : Nat) {h : Hp} {x0 : Nat} {x2 : Int32}, TH ρ c h → ρ x0 = 5 → Rg (0) (4096) (x2) → ((hI h x0 14).toInt ≤ x2.toInt) → (4096 - x2.toInt).toNat < f → Sat (sX4_keep_12 F f h x0 x2) (ZV ρ c) := by
  intro f
  induction f with
  | zero => intros; omega
  | succ f ih =>
    intro h x0 x2 T r_x0 i_x2 kp hm
    rw [sX4_keep_12]
    unfold sX4_keep_71 sX4_keep_49
    obtain ⟨C_12, hC_12⟩ : ∃ C : Int, C = x2.toInt := ⟨_, rfl⟩
    have hk_12 : ∀ {h : Hp} {x0 : Nat} {x2 : Int32}, TH ρ c h → ρ x0 = 5 → Rg (0) (4096) (x2) → ((hI h x0 14).toInt ≤ x2.toInt) → C_12 < x2.toInt → Sat (sX4_keep_12 F f h x0 x2) (ZV ρ c) := by
      intro h' x0' x2' T' r_x0' i_x2' kp' hl
      exact ih T' r_x0' i_x2' kp' (by have := i_x2'.1; have := i_x2'.2; omega)
    have hc_12 : C_12 ≤ x2.toInt := by omega
    refine s_br (fun c_1 => ?_) (fun c_1 => ?_)
    · have _ := c_1
      refine s_br (fun c_2 => ?_) (fun c_2 => ?_)
      · have _ := c_2
        have i_f_3 : Rg (0) (0) ((hI h x0 5)) := rg_eq c_2 (rg_b rfl : Rg (0) (0) (0 : Int32))
        exact zX4_keep_79 hF (pmA_s hA rfl) T r_x0 (thI T r_x0 (k := 5) (i := 8) rfl : Rg (0) (4096) ((hI h x0 8))) r_x0
      · have _ := c_2
        have i_f_4 : Rg (1) (4) ((hI h x0 5)) := rg_nlo c_2 (thI T r_x0 (k := 5) (i := 5) rfl : Rg (0) (4) ((hI h x0 5))) (rg_b rfl : Rg (0) (0) (0 : Int32))
        refine s_br (fun c_5 => ?_) (fun c_5 => ?_)
        · have _ := c_5
          have i_f_6 : Rg (1) (1) ((hI h x0 5)) := rg_eq c_5 (rg_b rfl : Rg (1) (1) ((1 : Int32)))
          exact zX4_keep_79 hF (pmA_s hA rfl) T r_x0 (thI T r_x0 (k := 5) (i := 8) rfl : Rg (0) (4096) ((hI h x0 8))) r_x0
        · have _ := c_5
          have i_f_7 : Rg (2) (4) ((hI h x0 5)) := rg_nlo c_5 i_f_4 (rg_b rfl : Rg (1) (1) ((1 : Int32)))
          exact zX4_keep_79 hF (pmA_s hA rfl) T r_x0 (rg_m (rg_b rfl : Rg (0) (0) ((0 : Int32))) (by decide)) r_x0
    · have _ := c_1
      have i_f_8 : Rg (0) (4095) (x2) := rg_lt1 (nle_lt c_1) i_x2 (thI T r_x0 (k := 5) (i := 8) rfl : Rg (0) (4096) ((hI h x0 8)))
      have i_f_9 : Rg (1) (4096) ((hI h x0 8)) := rg_lt2 (nle_lt c_1) i_x2 (thI T r_x0 (k := 5) (i := 8) rfl : Rg (0) (4096) ((hI h x0 8)))
      obtain ⟨r_4, e_r_4, q_r_4⟩ := thR T r_x0 (k := 5) (i := 10) (k2 := 43) rfl (by decide)
      refine s_ref e_r_4 ?_
      refine s_gd (by rw [thN T q_r_4 (k := 43) (n := 4096) rfl (by decide)]; exact rg_inB (i_f_8 : Rg (0) (4095) (x2)) (by decide)) ?_
      refine s_br (fun c_10 => ?_) (fun c_10 => ?_)
      · have _ := c_10
        have i_f_11 : Rg (-2147483648) (0) ((hI h r_4 x2.toNatClampNeg)) := rg_le1 c_10 (thI T q_r_4 (k := 43) rfl : Rg (-2147483648) (2147483647) ((hI h r_4 x2.toNatClampNeg))) (rg_b rfl : Rg (0) (0) (0 : Int32))
        refine s_q (fun v_1q3 e_12 => ?_)
        have i_v_1q3 : Rg (1) (4096) (v_1q3) := by rw [e_12]; exact (rg_add i_f_8 (rg_b rfl : Rg (1) (1) ((1 : Int32))) (by decide) : Rg (1) (4096) (x2 + (1 : Int32)))
        have m_13 : (v_1q3).toInt = x2.toInt + 1 := by rw [e_12]; exact rg_inc i_f_8 (by decide)
        exact hk_12 T r_x0 (rg_m i_v_1q3 (by decide)) (show (hI h x0 14).toInt ≤ (v_1q3).toInt from (by have := (i_v_1q3 : Rg (1) (4096) (v_1q3)).1; have := (i_v_1q3 : Rg (1) (4096) (v_1q3)).2; have : (v_1q3).toInt = (x2 + (1 : Int32) : Int32).toInt := congrArg Int32.toInt e_12; have : (x2 + (1 : Int32) : Int32).toInt = (x2 : Int32).toInt + ((1 : Int32) : Int32).toInt := ti_add (i_f_8 : Rg (0) (4095) (x2)) ((rg_b rfl : Rg (1) (1) ((1 : Int32))) : Rg (1) (1) ((1 : Int32))) (by decide); have := (i_f_8 : Rg (0) (4095) (x2)).1; have := (i_f_8 : Rg (0) (4095) (x2)).2; have : ((1 : Int32)).toInt = 1 := rfl; have hq_ := ((thI T r_x0 (k := 5) (i := 14) rfl : Rg (0) (4096) ((hI h x0 14))) : Rg (0) (4096) ((hI h x0 14))); have := hq_.1; have := hq_.2; have := nle_i c_1; have := (i_f_9 : Rg (1) (4096) ((hI h x0 8))).1; have := (i_f_9 : Rg (1) (4096) ((hI h x0 8))).2; have := le_i c_10; have := (i_f_11 : Rg (-2147483648) (0) ((hI h r_4 x2.toNatClampNeg))).1; have := (i_f_11 : Rg (-2147483648) (0) ((hI h r_4 x2.toNatClampNeg))).2; have : (0 : Int32).toInt = 0 := rfl; omega)) (by have := hc_12; omega)
      · have _ := c_10
        have i_f_14 : Rg (1) (2147483647) ((hI h r_4 x2.toNatClampNeg)) := rg_lt2 (nle_lt c_10) (rg_b rfl : Rg (0) (0) (0 : Int32)) (thI T q_r_4 (k := 43) rfl : Rg (-2147483648) (2147483647) ((hI h r_4 x2.toNatClampNeg)))
        obtain ⟨r_7, e_r_7, q_r_7⟩ := thR T r_x0 (k := 5) (i := 12) (k2 := 45) rfl (by decide)
        refine s_ref e_r_7 ?_
        have og_15 : Rg (0) (4095) ((hI h x0 14)) := ⟨(by have hq_ := ((thI T r_x0 (k := 5) (i := 14) rfl : Rg (0) (4096) ((hI h x0 14))) : Rg (0) (4096) ((hI h x0 14))); have := hq_.1; have := hq_.2; have := (i_f_8 : Rg (0) (4095) (x2)).1; have := (i_f_8 : Rg (0) (4095) (x2)).2; have := nle_i c_1; have := (i_f_9 : Rg (1) (4096) ((hI h x0 8))).1; have := (i_f_9 : Rg (1) (4096) ((hI h x0 8))).2; have := nle_i c_10; have := (i_f_14 : Rg (1) (2147483647) ((hI h r_4 x2.toNatClampNeg))).1; have := (i_f_14 : Rg (1) (2147483647) ((hI h r_4 x2.toNatClampNeg))).2; have : (0 : Int32).toInt = 0 := rfl; omega), (by have hq_ := ((thI T r_x0 (k := 5) (i := 14) rfl : Rg (0) (4096) ((hI h x0 14))) : Rg (0) (4096) ((hI h x0 14))); have := hq_.1; have := hq_.2; have := (i_f_8 : Rg (0) (4095) (x2)).1; have := (i_f_8 : Rg (0) (4095) (x2)).2; have := nle_i c_1; have := (i_f_9 : Rg (1) (4096) ((hI h x0 8))).1; have := (i_f_9 : Rg (1) (4096) ((hI h x0 8))).2; have := nle_i c_10; have := (i_f_14 : Rg (1) (2147483647) ((hI h r_4 x2.toNatClampNeg))).1; have := (i_f_14 : Rg (1) (2147483647) ((hI h r_4 x2.toNatClampNeg))).2; have : (0 : Int32).toInt = 0 := rfl; omega)⟩
        refine s_gd (by rw [thN T q_r_7 (k := 45) (n := 4096) rfl (by decide)]; exact rg_inB (og_15 : Rg (0) (4095) ((hI h x0 14))) (by decide)) ?_
        refine s_hq (th_wI T q_r_7 (k := 45) (lo := (0)) (hi := (4095)) rfl (i_f_8 : Rg (0) (4095) (x2)) (by decide) (by decide) (pm_a hA rfl)) (fun h_9 T_16 w_17 => ?_)
        refine s_hq (th_wI T_16 r_x0 (k := 5) (lo := (0)) (hi := (4096)) rfl ((rg_m (rg_add ((rg_hw w_17 (ne_r r_x0 q_r_7 (by decide)) og_15) : Rg (0) (4095) ((hI h_9 x0 14))) (rg_b rfl : Rg (1) (1) ((1 : Int32))) (by decide) : Rg (1) (4096) (((hI h_9 x0 14) + (1 : Int32)))) (by decide)) : Rg (0) (4096) (((hI h_9 x0 14) + (1 : Int32)))) (by decide) (by decide) (pm_a hA rfl)) (fun h_10 T_18 w_19 => ?_)
        refine s_q (fun v_1q4 e_20 => ?_)
        have i_v_1q4 : Rg (1) (4096) (v_1q4) := by rw [e_20]; exact (rg_add i_f_8 (rg_b rfl : Rg (1) (1) ((1 : Int32))) (by decide) : Rg (1) (4096) (x2 + (1 : Int32)))
        have m_21 : (v_1q4).toInt = x2.toInt + 1 := by rw [e_20]; exact rg_inc i_f_8 (by decide)
        exact hk_12 T_18 r_x0 (rg_m i_v_1q4 (by decide)) (show (hI h_10 x0 14).toInt ≤ (v_1q4).toInt from (by have := (i_v_1q4 : Rg (1) (4096) (v_1q4)).1; have := (i_v_1q4 : Rg (1) (4096) (v_1q4)).2; have : (v_1q4).toInt = (x2 + (1 : Int32) : Int32).toInt := congrArg Int32.toInt e_20; have : (x2 + (1 : Int32) : Int32).toInt = (x2 : Int32).toInt + ((1 : Int32) : Int32).toInt := ti_add (i_f_8 : Rg (0) (4095) (x2)) ((rg_b rfl : Rg (1) (1) ((1 : Int32))) : Rg (1) (1) ((1 : Int32))) (by decide); have := (i_f_8 : Rg (0) (4095) (x2)).1; have := (i_f_8 : Rg (0) (4095) (x2)).2; have : ((1 : Int32)).toInt = 1 := rfl; have hq_ := (((rg_hs w_19 (rg_add ((rg_hw w_17 (ne_r r_x0 q_r_7 (by decide)) og_15) : Rg (0) (4095) ((hI h_9 x0 14))) (rg_b rfl : Rg (1) (1) ((1 : Int32))) (by decide) : Rg (1) (4096) (((hI h_9 x0 14) + (1 : Int32))))) : Rg (1) (4096) ((hI h_10 x0 14))) : Rg (1) (4096) ((hI h_10 x0 14))); have := hq_.1; have := hq_.2; have : (hI h_10 x0 14).toInt = (((hI h_9 x0 14) + (1 : Int32)) : Int32).toInt := congrArg Int32.toInt (he_s w_19); have : (((hI h_9 x0 14) + (1 : Int32)) : Int32).toInt = ((hI h_9 x0 14) : Int32).toInt + ((1 : Int32) : Int32).toInt := ti_add (((rg_hw w_17 (ne_r r_x0 q_r_7 (by decide)) og_15) : Rg (0) (4095) ((hI h_9 x0 14))) : Rg (0) (4095) ((hI h_9 x0 14))) ((rg_b rfl : Rg (1) (1) ((1 : Int32))) : Rg (1) (1) ((1 : Int32))) (by decide); have hq_ := (((rg_hw w_17 (ne_r r_x0 q_r_7 (by decide)) og_15) : Rg (0) (4095) ((hI h_9 x0 14))) : Rg (0) (4095) ((hI h_9 x0 14))); have := hq_.1; have := hq_.2; have : (hI h_9 x0 14).toInt = (hI h x0 14).toInt := congrArg Int32.toInt (he_w w_17 (ne_r r_x0 q_r_7 (by decide))); have := (og_15 : Rg (0) (4095) ((hI h x0 14))).1; have := (og_15 : Rg (0) (4095) ((hI h x0 14))).2; have := nle_i c_1; have := (i_f_9 : Rg (1) (4096) ((hI h x0 8))).1; have := (i_f_9 : Rg (1) (4096) ((hI h x0 8))).2; have := nle_i c_10; have := (i_f_14 : Rg (1) (2147483647) ((hI h r_4 x2.toNatClampNeg))).1; have := (i_f_14 : Rg (1) (2147483647) ((hI h r_4 x2.toNatClampNeg))).2; have : (0 : Int32).toInt = 0 := rfl; omega)) (by have := hc_12; omega)
set_option maxRecDepth 20000 in
theorem zX4_keep {ρ : Nat → Nat} {c : Cm} {F : Nat} (hF : 700000 ≤ F) (hA : pmA c [(45, 999), (46, 999), (5, 14), (5, 15), (5, 16)]) {h : Hp} {x0 : Nat} {x1 : Int32} (T : TH ρ c h) (r_x0 : ρ x0 = 5) (i_x1 : Rg (0) (59) (x1)) : Sat (sX4_keep F h x0 x1) (ZV ρ c) := by
  unfold sX4_keep 
  refine s_hq (th_wI T r_x0 (k := 5) (lo := (-1)) (hi := (59)) rfl ((rg_m i_x1 (by decide)) : Rg (-1) (59) (x1)) (by decide) (by decide) (pm_a hA rfl)) (fun h_1 T_1 w_2 => ?_)
  refine s_hq (th_wI T_1 r_x0 (k := 5) (lo := (0)) (hi := (4096)) rfl ((rg_m (rg_b rfl : Rg (0) (0) ((0 : Int32))) (by decide)) : Rg (0) (4096) ((0 : Int32))) (by decide) (by decide) (pm_a hA rfl)) (fun h_2 T_3 w_4 => ?_)
  have m_5 : Rg (0) (4096) ((0 : Int32)) := (rg_m (rg_b rfl : Rg (0) (0) ((0 : Int32))) (by decide))
  exact zX4_keep_12 hF (pmA_s hA rfl) F T_3 r_x0 (rg_m (rg_b rfl : Rg (0) (0) ((0 : Int32))) (by decide)) (show (hI h_2 x0 14).toInt ≤ ((0 : Int32)).toInt from (by have : ((0 : Int32)).toInt = 0 := rfl; have hq_ := (((rg_hs w_4 (rg_b rfl : Rg (0) (0) ((0 : Int32)))) : Rg (0) (0) ((hI h_2 x0 14))) : Rg (0) (0) ((hI h_2 x0 14))); have := hq_.1; have := hq_.2; have : (hI h_2 x0 14).toInt = ((0 : Int32) : Int32).toInt := congrArg Int32.toInt (he_s w_4); omega)) (by have := m_5.1; have := m_5.2; omega)
set_option maxRecDepth 20000 in
theorem zX4_set_44 {ρ : Nat → Nat} {c : Cm} {F : Nat} {w_x1 : Nat} (hF : 700000 ≤ F) (hA : pmA c [(34, 999), (35, 999), (36, 999), (37, 999), (38, 999), (42, 999), (4, 5), (4, 6), (4, 8), (4, 9), (4, 10), (5, 7), (5, 9)]) {h : Hp} {x0 : Nat} {x1 : Nat} {t0 : Int32} {t1 : Nat} (o_x1 : cw c x1 = w_x1) (T : TH ρ c h) (r_x0 : ρ x0 = 5) (r_x1 : ρ x1 = 4) (i_t0 : Rg (0) (8) (t0)) (r_t1 : ρ t1 = 5) : Sat (sX4_set_44 F h x0 x1 t0 t1) (ZV ρ c) := by
  unfold sX4_set_44 
  refine s_hq (th_wI T r_t1 (k := 5) (lo := (0)) (hi := (8)) rfl (i_t0 : Rg (0) (8) (t0)) (by decide) (by decide) (pm_a hA rfl)) (fun h_1 T_1 w_2 => ?_)
  refine s_hq (th_wI T_1 r_x0 (k := 5) (lo := (0)) (hi := (1)) rfl ((rg_m (rg_b rfl : Rg (0) (0) ((0 : Int32))) (by decide)) : Rg (0) (1) ((0 : Int32))) (by decide) (by decide) (pm_a hA rfl)) (fun h_2 T_3 w_4 => ?_)
  obtain ⟨r_3, e_r_3, q_r_3⟩ := thR T_3 r_x0 (k := 5) (i := 4) (k2 := 42) rfl (by decide)
  refine s_ref e_r_3 ?_
  refine s_cV (zJ7_fill_53178 hF T_3 q_r_3 (k := 42) (n := 8) (lo := (0)) (hi := (200000)) (rg_m (rg_b rfl : Rg (0) (0) ((0 : Int32))) (by decide)) (fun _ => rfl) rfl (by decide) (by decide) (by decide) (by decide) (fun _ => (pm_a hA rfl))) (fun o_4 T_5 => ?_)
  obtain ⟨r_5, e_r_5, q_r_5⟩ := thR T_5 r_x0 (k := 5) (i := 1) (k2 := 39) rfl (by decide)
  refine s_ref e_r_5 ?_
  refine s_gd (by rw [thN T_5 q_r_5 (k := 39) (n := 9) rfl (by decide)]; exact rg_inB ((rg_m (rg_b rfl : Rg (0) (0) ((0 : Int32))) (by decide)) : Rg (0) (8) ((0 : Int32))) (by decide)) ?_
  obtain ⟨r_7, e_r_7, q_r_7⟩ := thE T_5 q_r_5 (k := 39) (n := 9) (k2 := 4) (b := 0) ((rg_b rfl : Rg (0) (0) ((0 : Int32))) : Rg (0) (0) ((0 : Int32))) (by decide) (by decide) (by decide)
  refine s_ref e_r_7 ?_
  refine s_cV (zX3_copyFrom hF (pmO_a hA rfl) T_5 q_r_7 r_x1) (fun o_8 T_6 => ?_)
  exact s_some (T_6)
set_option maxRecDepth 20000 in
theorem zX4_set {ρ : Nat → Nat} {c : Cm} {F : Nat} {w_x1 : Nat} (hF : 700000 ≤ F) (hA : pmA c [(34, 999), (35, 999), (36, 999), (37, 999), (38, 999), (42, 999), (4, 5), (4, 6), (4, 8), (4, 9), (4, 10), (5, 5), (5, 6), (5, 7), (5, 9)]) {h : Hp} {x0 : Nat} {x1 : Nat} {x2 : Int32} {x3 : Int32} {x4 : Int32} (o_x1 : cw c x1 = w_x1) (T : TH ρ c h) (r_x0 : ρ x0 = 5) (r_x1 : ρ x1 = 4) (i_x2 : Rg (0) (4) (x2)) (i_x3 : Rg (0) (2) (x3)) (i_x4 : Rg (0) (4) (x4)) (k1 : (x2.toInt = 0 → 1 ≤ x4.toInt)) : Sat (sX4_set F h x0 x1 x2 x3 x4) (ZV ρ c) := by
  unfold sX4_set 
  refine s_hq (th_wI T r_x0 (k := 5) (lo := (0)) (hi := (4)) rfl (i_x2 : Rg (0) (4) (x2)) (by decide) (by decide) (pm_a hA rfl)) (fun h_1 T_1 w_2 => ?_)
  refine s_hq (th_wI T_1 r_x0 (k := 5) (lo := (0)) (hi := (2)) rfl (i_x3 : Rg (0) (2) (x3)) (by decide) (by decide) (pm_a hA rfl)) (fun h_2 T_3 w_4 => ?_)
  refine s_br (fun c_5 => ?_) (fun c_5 => ?_)
  · have _ := c_5
    have i_f_6 : Rg (0) (0) ((hI h_2 x0 5)) := rg_eq c_5 (rg_b rfl : Rg (0) (0) (0 : Int32))
    have og_7 : Rg (0) (8) ((((2 : Int32) * x4) - (1 : Int32))) := ⟨(by have : ((((2 : Int32) * x4) - (1 : Int32)) : Int32).toInt = (((2 : Int32) * x4) : Int32).toInt - ((1 : Int32) : Int32).toInt := ti_sub ((rg_mulc' (rg_b rfl : Rg (2) (2) ((2 : Int32))) i_x4 (by decide) : Rg (0) (8) (((2 : Int32) * x4))) : Rg (0) (8) (((2 : Int32) * x4))) ((rg_b rfl : Rg (1) (1) ((1 : Int32))) : Rg (1) (1) ((1 : Int32))) (by decide); have : (((2 : Int32) * x4) : Int32).toInt = 2 * (x4 : Int32).toInt := ti_mulc' (i_x4 : Rg (0) (4) (x4)) (rg_b rfl : Rg 2 2 ((2 : Int32))) (by decide); have := (i_x4 : Rg (0) (4) (x4)).1; have := (i_x4 : Rg (0) (4) (x4)).2; have : ((1 : Int32)).toInt = 1 := rfl; have := (i_x2 : Rg (0) (4) (x2)).1; have := (i_x2 : Rg (0) (4) (x2)).2; have := eq_i c_5; have := (i_f_6 : Rg (0) (0) ((hI h_2 x0 5))).1; have := (i_f_6 : Rg (0) (0) ((hI h_2 x0 5))).2; have : (hI h_2 x0 5).toInt = (hI h_1 x0 5).toInt := congrArg Int32.toInt (he_w w_4 (fun q => absurd q.2 (by decide))); have : (hI h_1 x0 5).toInt = (x2 : Int32).toInt := congrArg Int32.toInt (he_s w_2); have : (0 : Int32).toInt = 0 := rfl; clear o_x1; omega), (by have : ((((2 : Int32) * x4) - (1 : Int32)) : Int32).toInt = (((2 : Int32) * x4) : Int32).toInt - ((1 : Int32) : Int32).toInt := ti_sub ((rg_mulc' (rg_b rfl : Rg (2) (2) ((2 : Int32))) i_x4 (by decide) : Rg (0) (8) (((2 : Int32) * x4))) : Rg (0) (8) (((2 : Int32) * x4))) ((rg_b rfl : Rg (1) (1) ((1 : Int32))) : Rg (1) (1) ((1 : Int32))) (by decide); have : (((2 : Int32) * x4) : Int32).toInt = 2 * (x4 : Int32).toInt := ti_mulc' (i_x4 : Rg (0) (4) (x4)) (rg_b rfl : Rg 2 2 ((2 : Int32))) (by decide); have := (i_x4 : Rg (0) (4) (x4)).1; have := (i_x4 : Rg (0) (4) (x4)).2; have : ((1 : Int32)).toInt = 1 := rfl; have := (i_x2 : Rg (0) (4) (x2)).1; have := (i_x2 : Rg (0) (4) (x2)).2; have := eq_i c_5; have := (i_f_6 : Rg (0) (0) ((hI h_2 x0 5))).1; have := (i_f_6 : Rg (0) (0) ((hI h_2 x0 5))).2; have : (hI h_2 x0 5).toInt = (hI h_1 x0 5).toInt := congrArg Int32.toInt (he_w w_4 (fun q => absurd q.2 (by decide))); have : (hI h_1 x0 5).toInt = (x2 : Int32).toInt := congrArg Int32.toInt (he_s w_2); have : (0 : Int32).toInt = 0 := rfl; clear o_x1; omega)⟩
    exact zX4_set_44 hF (pmA_s hA rfl) o_x1 T_3 r_x0 r_x1 og_7 r_x0
  · have _ := c_5
    have i_f_8 : Rg (1) (4) ((hI h_2 x0 5)) := rg_nlo c_5 ((rg_hw w_4 (fun q => absurd q.2 (by decide)) (rg_hs w_2 i_x2)) : Rg (0) (4) ((hI h_2 x0 5))) (rg_b rfl : Rg (0) (0) (0 : Int32))
    refine s_br (fun c_9 => ?_) (fun c_9 => ?_)
    · have _ := c_9
      have i_f_10 : Rg (3) (3) ((hI h_2 x0 5)) := rg_eq c_9 (rg_b rfl : Rg (3) (3) ((3 : Int32)))
      exact zX4_set_44 hF (pmA_s hA rfl) o_x1 T_3 r_x0 r_x1 (rg_m i_x4 (by decide)) r_x0
    · have _ := c_9
      exact zX4_set_44 hF (pmA_s hA rfl) o_x1 T_3 r_x0 r_x1 (rg_mulc' (rg_b rfl : Rg (2) (2) ((2 : Int32))) i_x4 (by decide) : Rg (0) (8) (((2 : Int32) * x4))) r_x0
set_option maxRecDepth 20000 in
theorem zX4_isGoal {ρ : Nat → Nat} {c : Cm} {F : Nat} (hF : 700000 ≤ F) {h : Hp} {x0 : Nat} {x1 : Int32} (T : TH ρ c h) (r_x0 : ρ x0 = 5) (i_x1 : Rg (1) (8) (x1)) : Sat (sX4_isGoal h x0 x1) (ZI0 h (0) (1)) := by
  unfold sX4_isGoal sX4_isGoal_47 sX4_isGoal_64 sX4_isGoal_103
  refine s_br (fun c_1 => ?_) (fun c_1 => ?_)
  · have _ := c_1
    have i_f_2 : Rg (0) (0) ((hI h x0 6)) := rg_eq c_1 (rg_b rfl : Rg (0) (0) ((0 : Int32)))
    obtain ⟨r_1, e_r_1, q_r_1⟩ := thR T r_x0 (k := 5) (i := 3) (k2 := 41) rfl (by decide)
    refine s_ref e_r_1 ?_
    refine s_gd (by rw [thN T q_r_1 (k := 41) (n := 9) rfl (by decide)]; exact rg_inB ((rg_m i_x1 (by decide)) : Rg (0) (8) (x1)) (by decide)) ?_
    refine s_br (fun c_3 => ?_) (fun c_3 => ?_)
    · have _ := c_3
      have i_f_4 : Rg (5) (5) ((hI h r_1 x1.toNatClampNeg)) := rg_eq c_3 (rg_b rfl : Rg (5) (5) ((5 : Int32)))
      refine s_gd (rg_bool (rg_m (rg_b rfl : Rg (1) (1) ((1 : Int32))) (by decide))) ?_
      exact s_some ⟨rfl, (rg_m (rg_b rfl : Rg (1) (1) ((1 : Int32))) (by decide))⟩
    · have _ := c_3
      refine s_gd (rg_bool (rg_m (rg_b rfl : Rg (0) (0) ((0 : Int32))) (by decide))) ?_
      exact s_some ⟨rfl, (rg_m (rg_b rfl : Rg (0) (0) ((0 : Int32))) (by decide))⟩
  · have _ := c_1
    have i_f_5 : Rg (1) (2) ((hI h x0 6)) := rg_nlo c_1 (thI T r_x0 (k := 5) (i := 6) rfl : Rg (0) (2) ((hI h x0 6))) (rg_b rfl : Rg (0) (0) ((0 : Int32)))
    refine s_br (fun c_6 => ?_) (fun c_6 => ?_)
    · have _ := c_6
      have i_f_7 : Rg (1) (1) ((hI h x0 6)) := rg_eq c_6 (rg_b rfl : Rg (1) (1) ((1 : Int32)))
      obtain ⟨r_5, e_r_5, q_r_5⟩ := thR T r_x0 (k := 5) (i := 3) (k2 := 41) rfl (by decide)
      refine s_ref e_r_5 ?_
      refine s_gd (by rw [thN T q_r_5 (k := 41) (n := 9) rfl (by decide)]; exact rg_inB ((rg_m i_x1 (by decide)) : Rg (0) (8) (x1)) (by decide)) ?_
      refine s_br (fun c_8 => ?_) (fun c_8 => ?_)
      · have _ := c_8
        have i_f_9 : Rg (6) (6) ((hI h r_5 x1.toNatClampNeg)) := rg_eq c_8 (rg_b rfl : Rg (6) (6) ((6 : Int32)))
        refine s_gd (rg_bool (rg_m (rg_b rfl : Rg (1) (1) ((1 : Int32))) (by decide))) ?_
        exact s_some ⟨rfl, (rg_m (rg_b rfl : Rg (1) (1) ((1 : Int32))) (by decide))⟩
      · have _ := c_8
        have i_f_10 : Rg (0) (5) ((hI h r_5 x1.toNatClampNeg)) := rg_nhi c_8 (thI T q_r_5 (k := 41) rfl : Rg (0) (6) ((hI h r_5 x1.toNatClampNeg))) (rg_b rfl : Rg (6) (6) ((6 : Int32)))
        refine s_gd (rg_bool (rg_m (rg_b rfl : Rg (0) (0) ((0 : Int32))) (by decide))) ?_
        exact s_some ⟨rfl, (rg_m (rg_b rfl : Rg (0) (0) ((0 : Int32))) (by decide))⟩
    · have _ := c_6
      have i_f_11 : Rg (2) (2) ((hI h x0 6)) := rg_nlo c_6 i_f_5 (rg_b rfl : Rg (1) (1) ((1 : Int32)))
      obtain ⟨r_9, e_r_9, q_r_9⟩ := thR T r_x0 (k := 5) (i := 0) (k2 := 6) rfl (by decide)
      refine s_ref e_r_9 ?_
      obtain ⟨r_10, e_r_10, q_r_10⟩ := thR T r_x0 (k := 5) (i := 1) (k2 := 39) rfl (by decide)
      refine s_ref e_r_10 ?_
      refine s_gd (by rw [thN T q_r_10 (k := 39) (n := 9) rfl (by decide)]; exact rg_inB ((rg_m i_x1 (by decide)) : Rg (0) (8) (x1)) (by decide)) ?_
      obtain ⟨r_12, e_r_12, q_r_12⟩ := thE T q_r_10 (k := 39) (n := 9) (k2 := 4) (b := 8) ((rg_m i_x1 (by decide)) : Rg (0) (8) (x1)) (by decide) (by decide) (by decide)
      refine s_ref e_r_12 ?_
      obtain ⟨r_13, e_r_13, q_r_13⟩ := thR T r_x0 (k := 5) (i := 3) (k2 := 41) rfl (by decide)
      refine s_ref e_r_13 ?_
      refine s_gd (by rw [thN T q_r_13 (k := 41) (n := 9) rfl (by decide)]; exact rg_inB ((rg_m i_x1 (by decide)) : Rg (0) (8) (x1)) (by decide)) ?_
      refine s_dI0 (zX5_winnerOf hF T q_r_9 q_r_12 (thI T q_r_13 (k := 41) rfl : Rg (0) (6) ((hI h r_13 x1.toNatClampNeg)))) (fun o_15 eb_o_15 e_o_15 i_o_15 => ?_)
      have T_12 := th_eq e_o_15 T
      refine s_ref (hr_e e_o_15 e_r_10) ?_
      refine s_gd (by rw [thN T_12 q_r_10 (k := 39) (n := 9) rfl (by decide)]; exact rg_inB ((rg_m i_x1 (by decide)) : Rg (0) (8) (x1)) (by decide)) ?_
      refine s_ref (hr_e e_o_15 e_r_12) ?_
      refine s_br (fun c_13 => ?_) (fun c_13 => ?_)
      · have _ := c_13
        have i_f_14 : Rg (0) (1) (o_15.1) := rg_eq c_13 (rg_sub (rg_b rfl : Rg (1) (1) ((1 : Int32))) (thI T_12 q_r_12 (k := 4) (i := 5) rfl : Rg (0) (1) ((hI o_15.2 r_12 5))) (by decide) : Rg (0) (1) (((1 : Int32) - (hI o_15.2 r_12 5))))
        refine s_gd (rg_bool (rg_m (rg_b rfl : Rg (1) (1) ((1 : Int32))) (by decide))) ?_
        exact s_some ⟨(e_o_15.trans rfl), (rg_m (rg_b rfl : Rg (1) (1) ((1 : Int32))) (by decide))⟩
      · have _ := c_13
        refine s_gd (rg_bool (rg_m (rg_b rfl : Rg (0) (0) ((0 : Int32))) (by decide))) ?_
        exact s_some ⟨(e_o_15.trans rfl), (rg_m (rg_b rfl : Rg (0) (0) ((0 : Int32))) (by decide))⟩
set_option maxRecDepth 20000 in
theorem zX4_refutesOf {ρ : Nat → Nat} {c : Cm} {F : Nat} (hF : 700000 ≤ F) {h : Hp} {x0 : Nat} {x1 : Int32} (T : TH ρ c h) (r_x0 : ρ x0 = 5) (i_x1 : Rg (-2147483648) (2147483647) (x1)) : Sat (sX4_refutesOf h x0 x1) (ZI0 h (-2147483648) (2147483647)) := by
  unfold sX4_refutesOf sX4_refutesOf_21 sX4_refutesOf_22
  refine s_br (fun c_1 => ?_) (fun c_1 => ?_)
  · have _ := c_1
    have i_f_2 : Rg (-2147483648) (-1) (x1) := rg_lt1 c_1 i_x1 (rg_b rfl : Rg (0) (0) (0 : Int32))
    exact s_some ⟨rfl, (rg_m (rg_b rfl : Rg (-1) (-1) ((- 1 : Int32))) (by decide))⟩
  · have _ := c_1
    have i_f_3 : Rg (0) (2147483647) (x1) := rg_le2 (nlt_le c_1) (rg_b rfl : Rg (0) (0) (0 : Int32)) i_x1
    refine s_br (fun c_4 => ?_) (fun c_4 => ?_)
    · have _ := c_4
      exact s_some ⟨rfl, (rg_m (rg_b rfl : Rg (-1) (-1) ((- 1 : Int32))) (by decide))⟩
    · have _ := c_4
      have i_f_5 : Rg (0) (4095) (x1) := rg_lt1 (nle_lt c_4) i_f_3 (thI T r_x0 (k := 5) (i := 15) rfl : Rg (0) (4096) ((hI h x0 15)))
      have i_f_6 : Rg (1) (4096) ((hI h x0 15)) := rg_lt2 (nle_lt c_4) i_f_3 (thI T r_x0 (k := 5) (i := 15) rfl : Rg (0) (4096) ((hI h x0 15)))
      obtain ⟨r_3, e_r_3, q_r_3⟩ := thR T r_x0 (k := 5) (i := 13) (k2 := 46) rfl (by decide)
      refine s_ref e_r_3 ?_
      refine s_gd (by rw [thN T q_r_3 (k := 46) (n := 4096) rfl (by decide)]; exact rg_inB (i_f_5 : Rg (0) (4095) (x1)) (by decide)) ?_
      exact s_some ⟨rfl, (thI T q_r_3 (k := 46) rfl : Rg (-2147483648) (2147483647) ((hI h r_3 x1.toNatClampNeg)))⟩
set_option maxRecDepth 20000 in
theorem zX11_refutes {ρ : Nat → Nat} {c : Cm} {F : Nat} (hF : 700000 ≤ F) {h : Hp} {x0 : Nat} {x1 : Int32} (T : TH ρ c h) (r_x0 : ρ x0 = 12) (i_x1 : Rg (-2147483648) (2147483647) (x1)) : Sat (sX11_refutes h x0 x1) (ZI0 h (-2147483648) (2147483647)) := by
  unfold sX11_refutes 
  obtain ⟨r_1, e_r_1, q_r_1⟩ := thR T r_x0 (k := 12) (i := 11) (k2 := 5) rfl (by decide)
  refine s_ref e_r_1 ?_
  refine s_dI0 (zX4_refutesOf hF T q_r_1 i_x1) (fun o_2 eb_o_2 e_o_2 i_o_2 => ?_)
  have T_1 := th_eq e_o_2 T
  exact s_some ⟨(e_o_2.trans rfl), i_o_2⟩
set_option maxRecDepth 20000 in
theorem zX11_result {ρ : Nat → Nat} {c : Cm} {F : Nat} (hF : 700000 ≤ F) (hA : pmA c [(47, 999), (6, 4), (6, 5), (6, 6), (6, 7), (6, 8), (6, 9)]) (hi_1503 : pmO c 1503 [(34, 999), (35, 999), (36, 999), (37, 999), (38, 999), (4, 5), (4, 6), (4, 7), (4, 8), (4, 9), (4, 10)]) {h : Hp} {x0 : Nat} {x1 : Int32} (T : TH ρ c h) (r_x0 : ρ x0 = 12) (i_x1 : Rg (-2147483648) (2147483647) (x1)) (lw : (LwR ρ c h)) (pl : (PlP ρ c x0 h)) : Sat (sX11_result F h x0 x1) (ZI ρ c (-102) (2)) := by
  unfold sX11_result 
  refine s_dP0 (zX11_isPlace hF T r_x0 i_x1) (fun o_1 eb_o_1 e_o_1 i_o_1 p_o_1 => ?_)
  have T_1 := th_eq e_o_1 T
  refine s_br (fun c_2 => ?_) (fun c_2 => ?_)
  · have _ := c_2
    have i_f_3 : Rg (0) (0) (o_1.1) := rg_eq c_2 (rg_b rfl : Rg (0) (0) (0 : Int32))
    exact s_some ⟨(T_1), (rg_m (rg_b rfl : Rg (-102) (-102) ((- 102 : Int32))) (by decide))⟩
  · have _ := c_2
    have i_f_4 : Rg (1) (1) (o_1.1) := rg_nlo c_2 i_o_1 (rg_b rfl : Rg (0) (0) (0 : Int32))
    have p_f_5 := p_o_1 c_2
    obtain ⟨r_3, e_r_3, q_r_3⟩ := thR T_1 r_x0 (k := 12) (i := 6) (k2 := 6) rfl (by decide)
    refine s_ref e_r_3 ?_
    obtain ⟨r_4, e_r_4, q_r_4⟩ := thR T_1 r_x0 (k := 12) (i := 13) (k2 := 57) rfl (by decide)
    refine s_ref e_r_4 ?_
    refine s_gd (by rw [thN T_1 q_r_4 (k := 57) (n := 60) rfl (by decide)]; exact rg_inB (p_f_5 : Rg (0) (59) (x1)) (by decide)) ?_
    obtain ⟨r_6, e_r_6, q_r_6⟩ := thE T_1 q_r_4 (k := 57) (n := 60) (k2 := 4) (b := 59) (p_f_5 : Rg (0) (59) (x1)) (by decide) (by decide) (by decide)
    refine s_ref e_r_6 ?_
    refine s_ref e_r_3 ?_
    refine s_ref e_r_4 ?_
    refine s_gd (by rw [thN T_1 q_r_4 (k := 57) (n := 60) rfl (by decide)]; exact rg_inB (p_f_5 : Rg (0) (59) (x1)) (by decide)) ?_
    refine s_ref e_r_6 ?_
    have pf_6 : LwR ρ c o_1.2 := (by rw [e_o_1]; exact lw)
    have pf_7 : HasR ρ c x0 x1 o_1.2 := (by rw [e_o_1]; exact (hr_of T r_x0 pl eb_o_1 c_2))
    refine s_cI (zX5_endOf hF (pmA_s hA rfl) (pmO_s hi_1503 rfl) (th_id T_1 q_r_4 (k := 57) (w := 3200) e_r_6 rfl (by decide)) (by decide) T_1 q_r_3 q_r_6 pf_6 (pf_7.2 _ e_r_4 _ e_r_6)) (fun o_11 T_8 i_o_11 => ?_)
    refine s_dI0 (zX5_winnerOf hF T_8 q_r_3 q_r_6 i_o_11) (fun o_12 eb_o_12 e_o_12 i_o_12 => ?_)
    have T_9 := th_eq e_o_12 T_8
    exact s_some ⟨(T_9), (rg_m i_o_12 (by decide))⟩
set_option maxRecDepth 20000 in
theorem zX4_setRows {ρ : Nat → Nat} {c : Cm} {F : Nat} {w_x1 : Nat} (hF : 700000 ≤ F) (hA : pmA c [(34, 999), (35, 999), (36, 999), (37, 999), (38, 999), (42, 999), (4, 5), (4, 6), (4, 8), (4, 9), (4, 10), (5, 5), (5, 6), (5, 7), (5, 9)]) {h : Hp} {x0 : Nat} {x1 : Nat} {x2 : Int32} (o_x1 : cw c x1 = w_x1) (T : TH ρ c h) (r_x0 : ρ x0 = 5) (r_x1 : ρ x1 = 4) (i_x2 : Rg (1) (6) (x2)) : Sat (sX4_setRows F h x0 x1 x2) (ZV ρ c) := by
  unfold sX4_setRows 
  refine s_cV (zX4_set hF (pmA_s hA rfl) o_x1 T r_x0 r_x1 (rg_m (rg_b rfl : Rg (4) (4) ((4 : Int32))) (by decide)) (rg_m (rg_b rfl : Rg (0) (0) ((0 : Int32))) (by decide)) (rg_m (rg_b rfl : Rg (0) (0) ((0 : Int32))) (by decide)) (show ((4 : Int32)).toInt = 0 → 1 ≤ ((0 : Int32)).toInt from (by have : ((4 : Int32)).toInt = 4 := rfl; have : ((0 : Int32)).toInt = 0 := rfl; clear o_x1; omega))) (fun o_1 T_1 => ?_)
  refine s_hq (th_wI T_1 r_x0 (k := 5) (lo := (0)) (hi := (8)) rfl ((rg_m i_x2 (by decide)) : Rg (0) (8) (x2)) (by decide) (by decide) (pm_a hA rfl)) (fun h_2 T_2 w_3 => ?_)
  exact s_some (T_2)
set_option maxRecDepth 20000 in
theorem zX2_faultPlace {ρ : Nat → Nat} {c : Cm} {F : Nat} (hF : 700000 ≤ F) {h : Hp} {x0 : Nat} (T : TH ρ c h) (r_x0 : ρ x0 = 3) : Sat (sX2_faultPlace h x0) (ZI0 h (0) (1201)) := by
  unfold sX2_faultPlace 
  exact s_some ⟨rfl, (thI T r_x0 (k := 3) (i := 2) rfl : Rg (0) (1201) (hI h x0 2))⟩
set_option maxRecDepth 20000 in
theorem zX1_clear0 {ρ : Nat → Nat} {c : Cm} {F : Nat} {w_x0 : Nat} (hF : 700000 ≤ F) (hO_x0 : pmO c w_x0 [(29, 999), (31, 999), (2, 0), (2, 1), (2, 2), (2, 3), (2, 4), (2, 5), (2, 6), (2, 7), (2, 8), (2, 9), (2, 10), (2, 11), (2, 12), (2, 13)]) {h : Hp} {x0 : Nat} (o_x0 : cw c x0 = w_x0) (T : TH ρ c h) (r_x0 : ρ x0 = 2) : Sat (sX1_clear F h x0) (ZQ (ZV ρ c) (fun o => GeoS x0 o)) := by
  unfold sX1_clear 
  refine s_hq (th_wI T r_x0 (k := 2) (lo := (0)) (hi := (4095)) rfl ((rg_m (rg_b rfl : Rg (0) (0) ((0 : Int32))) (by decide)) : Rg (0) (4095) ((0 : Int32))) (by decide) (by decide) (pm_o hO_x0 o_x0 rfl)) (fun h_1 T_1 w_2 => ?_)
  refine s_hq (th_wI T_1 r_x0 (k := 2) (lo := (0)) (hi := (4095)) rfl ((rg_m (rg_b rfl : Rg (0) (0) ((0 : Int32))) (by decide)) : Rg (0) (4095) ((0 : Int32))) (by decide) (by decide) (pm_o hO_x0 o_x0 rfl)) (fun h_2 T_3 w_4 => ?_)
  refine s_hq (th_wI T_3 r_x0 (k := 2) (lo := (0)) (hi := (15)) rfl ((rg_m (rg_b rfl : Rg (0) (0) ((0 : Int32))) (by decide)) : Rg (0) (15) ((0 : Int32))) (by decide) (by decide) (pm_o hO_x0 o_x0 rfl)) (fun h_3 T_5 w_6 => ?_)
  refine s_hq (th_wI T_5 r_x0 (k := 2) (lo := (0)) (hi := (2)) rfl ((rg_m (rg_b rfl : Rg (0) (0) ((0 : Int32))) (by decide)) : Rg (0) (2) ((0 : Int32))) (by decide) (by decide) (pm_o hO_x0 o_x0 rfl)) (fun h_4 T_7 w_8 => ?_)
  refine s_hq (th_wI T_7 r_x0 (k := 2) (lo := (0)) (hi := (2)) rfl ((rg_m (rg_b rfl : Rg (0) (0) ((0 : Int32))) (by decide)) : Rg (0) (2) ((0 : Int32))) (by decide) (by decide) (pm_o hO_x0 o_x0 rfl)) (fun h_5 T_9 w_10 => ?_)
  refine s_hq (th_wI T_9 r_x0 (k := 2) (lo := (0)) (hi := (9)) rfl ((rg_m (rg_b rfl : Rg (0) (0) ((0 : Int32))) (by decide)) : Rg (0) (9) ((0 : Int32))) (by decide) (by decide) (pm_o hO_x0 o_x0 rfl)) (fun h_6 T_11 w_12 => ?_)
  refine s_hq (th_wI T_11 r_x0 (k := 2) (lo := (0)) (hi := (12)) rfl ((rg_m (rg_b rfl : Rg (0) (0) ((0 : Int32))) (by decide)) : Rg (0) (12) ((0 : Int32))) (by decide) (by decide) (pm_o hO_x0 o_x0 rfl)) (fun h_7 T_13 w_14 => ?_)
  refine s_hq (th_wI T_13 r_x0 (k := 2) (lo := (0)) (hi := (64)) rfl ((rg_m (rg_b rfl : Rg (0) (0) ((0 : Int32))) (by decide)) : Rg (0) (64) ((0 : Int32))) (by decide) (by decide) (pm_o hO_x0 o_x0 rfl)) (fun h_8 T_15 w_16 => ?_)
  refine s_hq (th_wI T_15 r_x0 (k := 2) (lo := (0)) (hi := (8)) rfl ((rg_m (rg_b rfl : Rg (0) (0) ((0 : Int32))) (by decide)) : Rg (0) (8) ((0 : Int32))) (by decide) (by decide) (pm_o hO_x0 o_x0 rfl)) (fun h_9 T_17 w_18 => ?_)
  refine s_hq (th_wI T_17 r_x0 (k := 2) (lo := (0)) (hi := (8)) rfl ((rg_m (rg_b rfl : Rg (0) (0) ((0 : Int32))) (by decide)) : Rg (0) (8) ((0 : Int32))) (by decide) (by decide) (pm_o hO_x0 o_x0 rfl)) (fun h_10 T_19 w_20 => ?_)
  refine s_hq (th_wI T_19 r_x0 (k := 2) (lo := (-1)) (hi := (11)) rfl ((rg_m (rg_b rfl : Rg (-1) (-1) ((- 1 : Int32))) (by decide)) : Rg (-1) (11) ((- 1 : Int32))) (by decide) (by decide) (pm_o hO_x0 o_x0 rfl)) (fun h_11 T_21 w_22 => ?_)
  refine s_hq (th_wI T_21 r_x0 (k := 2) (lo := (-1)) (hi := (11)) rfl ((rg_m (rg_b rfl : Rg (-1) (-1) ((- 1 : Int32))) (by decide)) : Rg (-1) (11) ((- 1 : Int32))) (by decide) (by decide) (pm_o hO_x0 o_x0 rfl)) (fun h_12 T_23 w_24 => ?_)
  refine s_hq (th_wI T_23 r_x0 (k := 2) (lo := (-1)) (hi := (11)) rfl ((rg_m (rg_b rfl : Rg (-1) (-1) ((- 1 : Int32))) (by decide)) : Rg (-1) (11) ((- 1 : Int32))) (by decide) (by decide) (pm_o hO_x0 o_x0 rfl)) (fun h_13 T_25 w_26 => ?_)
  refine s_hq (th_wJ T_25 r_x0 (k := 2) (by decide) (pm_o hO_x0 o_x0 rfl)) (fun h_14 T_27 w_28 => ?_)
  obtain ⟨r_15, e_r_15, q_r_15⟩ := thR T_27 r_x0 (k := 2) (i := 16) (k2 := 29) rfl (by decide)
  refine s_ref e_r_15 ?_
  refine s_cVf (S := fS [] [(w_x0, [(29, 999)])]) T_27 (fs_sub pmA_n (fs_c (pmO_s hO_x0 rfl) fs_n)) (zJ7_fill_53178 hF (th_in _ T_27) q_r_15 (k := 29) (n := 12) (lo := (0)) (hi := (8)) (rg_m (rg_b rfl : Rg (0) (0) ((0 : Int32))) (by decide)) (fun _ => rfl) rfl (by decide) (by decide) (by decide) (by decide) (fun _ => (pm_o (fs_o (t := w_x0) (B := [(29, 999)]) (.head _)) (th_ih T_27 r_x0 (k := 2) rfl e_r_15 o_x0) rfl))) (fun o_16 T_29 f_o_16 => ?_)
  obtain ⟨r_17, e_r_17, q_r_17⟩ := thR T_29 r_x0 (k := 2) (i := 18) (k2 := 31) rfl (by decide)
  refine s_ref e_r_17 ?_
  refine s_cVf (S := fS [] [(w_x0, [(31, 999)])]) T_29 (fs_sub pmA_n (fs_c (pmO_s hO_x0 rfl) fs_n)) (zJ7_fill_53178 hF (th_in _ T_29) q_r_17 (k := 31) (n := 12) (lo := (0)) (hi := (6)) (rg_m (rg_b rfl : Rg (0) (0) ((0 : Int32))) (by decide)) (fun _ => rfl) rfl (by decide) (by decide) (by decide) (by decide) (fun _ => (pm_o (fs_o (t := w_x0) (B := [(31, 999)]) (.head _)) (th_ih T_29 r_x0 (k := 2) rfl e_r_17 o_x0) rfl))) (fun o_18 T_30 f_o_18 => ?_)
  exact s_some ⟨(T_30), (gs_zero (by have hq_ := (((rg_hi (fr_I f_o_18 r_x0 (by decide) o_x0 rfl) (rg_hi (fr_I f_o_16 r_x0 (by decide) o_x0 rfl) (rg_hj w_28 (rg_hw w_26 (fun q => absurd q.2 (by decide)) (rg_hw w_24 (fun q => absurd q.2 (by decide)) (rg_hw w_22 (fun q => absurd q.2 (by decide)) (rg_hs w_20 (rg_b rfl : Rg (0) (0) ((0 : Int32)))))))))) : Rg (0) (0) ((hI o_18 x0 0))) : Rg (0) (0) ((hI o_18 x0 0))); have := hq_.1; have := hq_.2; have : (hI o_18 x0 0).toInt = (hI o_16 x0 0).toInt := congrArg Int32.toInt (fr_I f_o_18 r_x0 (by decide) o_x0 rfl); have : (hI o_16 x0 0).toInt = (hI h_14 x0 0).toInt := congrArg Int32.toInt (fr_I f_o_16 r_x0 (by decide) o_x0 rfl); have : (hI h_14 x0 0).toInt = (hI h_13 x0 0).toInt := congrArg Int32.toInt (he_j w_28); have : (hI h_13 x0 0).toInt = (hI h_12 x0 0).toInt := congrArg Int32.toInt (he_w w_26 (fun q => absurd q.2 (by decide))); have : (hI h_12 x0 0).toInt = (hI h_11 x0 0).toInt := congrArg Int32.toInt (he_w w_24 (fun q => absurd q.2 (by decide))); have : (hI h_11 x0 0).toInt = (hI h_10 x0 0).toInt := congrArg Int32.toInt (he_w w_22 (fun q => absurd q.2 (by decide))); have : (hI h_10 x0 0).toInt = ((0 : Int32) : Int32).toInt := congrArg Int32.toInt (he_s w_20); have : ((0 : Int32)).toInt = 0 := rfl; clear o_x0; omega) (by have hq_ := (((rg_hi (fr_I f_o_18 r_x0 (by decide) o_x0 rfl) (rg_hi (fr_I f_o_16 r_x0 (by decide) o_x0 rfl) (rg_hj w_28 (rg_hw w_26 (fun q => absurd q.2 (by decide)) (rg_hw w_24 (fun q => absurd q.2 (by decide)) (rg_hw w_22 (fun q => absurd q.2 (by decide)) (rg_hw w_20 (fun q => absurd q.2 (by decide)) (rg_hw w_18 (fun q => absurd q.2 (by decide)) (rg_hs w_16 (rg_b rfl : Rg (0) (0) ((0 : Int32)))))))))))) : Rg (0) (0) ((hI o_18 x0 2))) : Rg (0) (0) ((hI o_18 x0 2))); have := hq_.1; have := hq_.2; have : (hI o_18 x0 2).toInt = (hI o_16 x0 2).toInt := congrArg Int32.toInt (fr_I f_o_18 r_x0 (by decide) o_x0 rfl); have : (hI o_16 x0 2).toInt = (hI h_14 x0 2).toInt := congrArg Int32.toInt (fr_I f_o_16 r_x0 (by decide) o_x0 rfl); have : (hI h_14 x0 2).toInt = (hI h_13 x0 2).toInt := congrArg Int32.toInt (he_j w_28); have : (hI h_13 x0 2).toInt = (hI h_12 x0 2).toInt := congrArg Int32.toInt (he_w w_26 (fun q => absurd q.2 (by decide))); have : (hI h_12 x0 2).toInt = (hI h_11 x0 2).toInt := congrArg Int32.toInt (he_w w_24 (fun q => absurd q.2 (by decide))); have : (hI h_11 x0 2).toInt = (hI h_10 x0 2).toInt := congrArg Int32.toInt (he_w w_22 (fun q => absurd q.2 (by decide))); have : (hI h_10 x0 2).toInt = (hI h_9 x0 2).toInt := congrArg Int32.toInt (he_w w_20 (fun q => absurd q.2 (by decide))); have : (hI h_9 x0 2).toInt = (hI h_8 x0 2).toInt := congrArg Int32.toInt (he_w w_18 (fun q => absurd q.2 (by decide))); have : (hI h_8 x0 2).toInt = ((0 : Int32) : Int32).toInt := congrArg Int32.toInt (he_s w_16); have : ((0 : Int32)).toInt = 0 := rfl; clear o_x0; omega))⟩
theorem zX1_clear {ρ : Nat → Nat} {c : Cm} {F : Nat} {w_x0 : Nat} (hF : 700000 ≤ F) (hO_x0 : pmO c w_x0 [(29, 999), (31, 999), (2, 0), (2, 1), (2, 2), (2, 3), (2, 4), (2, 5), (2, 6), (2, 7), (2, 8), (2, 9), (2, 10), (2, 11), (2, 12), (2, 13)]) {h : Hp} {x0 : Nat} (o_x0 : cw c x0 = w_x0) (T : TH ρ c h) (r_x0 : ρ x0 = 2) (ga : (GeoA ρ h)) : Sat (sX1_clear F h x0) (ZQ (ZV ρ c) (fun o => GeoA ρ o)) :=
  s_imp (zX1_clear0 (c := cat c (fS [] [(w_x0, [(29, 999), (31, 999), (2, 0), (2, 1), (2, 2), (2, 3), (2, 4), (2, 5), (2, 6), (2, 7), (2, 8), (2, 9), (2, 10), (2, 11), (2, 12), (2, 13)])]) h) hF (fs_o (.head _)) o_x0 (th_in _ T) r_x0) (fun o ho => ⟨th_out T (fs_sub pmA_n (fs_c hO_x0 fs_n)) ho.1, ga_upd T (fr_u T ho.1.2.2) r_x0 (fun w hw => ⟨fs_cf (Or.inr (fun z => hw (z.trans o_x0.symm))) rfl, fs_cf (Or.inr (fun z => hw (z.trans o_x0.symm))) rfl, fs_cf (Or.inr (fun z => hw (z.trans o_x0.symm))) rfl, fs_cf (Or.inr (fun z => hw (z.trans o_x0.symm))) rfl, fun i => fs_cf (Or.inr (fun z => hw (z.trans o_x0.symm))) rfl⟩) ga ho.2⟩)

