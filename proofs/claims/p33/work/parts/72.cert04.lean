set_option maxRecDepth 20000 in
theorem zX6_keep {ρ : Nat → Nat} {c : Cm} {F : Nat} (hF : 700000 ≤ F) (hA : pmA c [(48, 999), (7, 6), (7, 7)]) {h : Hp} {x0 : Nat} {x1 : Int32} (T : TH ρ c h) (r_x0 : ρ x0 = 7) (i_x1 : Rg (-2147483648) (2147483647) (x1)) (gx : GMq (c.2.1 50) x1) : Sat (sX6_keep F h x0 x1) (ZV ρ c) := by
  unfold sX6_keep 
  refine s_br (fun c_1 => ?_) (fun c_1 => ?_)
  · have _ := c_1
    have i_f_2 : Rg (0) (2999) ((hI h x0 6)) := rg_lt1 c_1 (thI T r_x0 (k := 7) (i := 6) rfl : Rg (0) (3000) ((hI h x0 6))) (rg_b rfl : Rg (3000) (3000) ((3000 : Int32)))
    refine s_q (fun v_2 e_3 => ?_)
    have i_v_2 : Rg (0) (2999) (v_2) := by rw [e_3]; exact i_f_2
    exact zX6_keep_23 hF (pmA_s hA rfl) F T r_x0 i_x1 (rg_m (rg_b rfl : Rg (0) (0) ((0 : Int32))) (by decide)) i_v_2 (show 0 ≤ ((0 : Int32)).toInt ∧ ((0 : Int32)).toInt ≤ (v_2).toInt ∧ (v_2).toInt ≤ (hI h x0 6).toInt ∧ (hI h x0 6).toInt ≤ 2999 from (by have : ((0 : Int32)).toInt = 0 := rfl; have := (i_v_2 : Rg (0) (2999) (v_2)).1; have := (i_v_2 : Rg (0) (2999) (v_2)).2; have : (v_2).toInt = (hI h x0 6 : Int32).toInt := congrArg Int32.toInt e_3; have := (i_f_2 : Rg (0) (2999) (hI h x0 6)).1; have := (i_f_2 : Rg (0) (2999) (hI h x0 6)).2; have := (i_f_2 : Rg (0) (2999) ((hI h x0 6))).1; have := (i_f_2 : Rg (0) (2999) ((hI h x0 6))).2; have := lt_i c_1; have : ((3000 : Int32)).toInt = 3000 := rfl; omega)) gx (show (((v_2).toInt - ((0 : Int32)).toInt) - 0).toNat < F from (by have := (i_x1 : Rg (-2147483648) (2147483647) (x1)).1; have := (i_x1 : Rg (-2147483648) (2147483647) (x1)).2; have : ((0 : Int32)).toInt = 0 := rfl; have := (i_v_2 : Rg (0) (2999) (v_2)).1; have := (i_v_2 : Rg (0) (2999) (v_2)).2; have : (v_2).toInt = (hI h x0 6 : Int32).toInt := congrArg Int32.toInt e_3; have := (i_f_2 : Rg (0) (2999) (hI h x0 6)).1; have := (i_f_2 : Rg (0) (2999) (hI h x0 6)).2; have := (i_f_2 : Rg (0) (2999) ((hI h x0 6))).1; have := (i_f_2 : Rg (0) (2999) ((hI h x0 6))).2; have := lt_i c_1; have : ((3000 : Int32)).toInt = 3000 := rfl; omega))
  · have _ := c_1
    have i_f_4 : Rg (3000) (3000) ((hI h x0 6)) := rg_le2 (nlt_le c_1) (rg_b rfl : Rg (3000) (3000) ((3000 : Int32))) (thI T r_x0 (k := 7) (i := 6) rfl : Rg (0) (3000) ((hI h x0 6)))
    refine s_hq (th_wI T r_x0 (k := 7) (lo := (0)) (hi := (1)) rfl ((rg_m (rg_b rfl : Rg (1) (1) ((1 : Int32))) (by decide)) : Rg (0) (1) ((1 : Int32))) (by decide) (by decide) (pm_a hA rfl)) (fun h_3 T_5 w_6 => ?_)
    exact s_some (T_5)
set_option maxRecDepth 20000 in
theorem zX6_lay {ρ : Nat → Nat} {c : Cm} {F : Nat} {w_x1 : Nat} (hF : 700000 ≤ F) (hO_x1 : pmO c w_x1 [(34, 999), (35, 999), (36, 999), (37, 999), (38, 999), (4, 5), (4, 6), (4, 7), (4, 8), (4, 9), (4, 10)]) {h : Hp} {x0 : Nat} {x1 : Nat} {x2 : Int32} (o_x1 : cw c x1 = w_x1) (T : TH ρ c h) (r_x0 : ρ x0 = 7) (r_x1 : ρ x1 = 4) (i_x2 : Rg (-2147483648) (2147483647) (x2)) (gx : GMq (c.2.1 50) x2) : Sat (sX6_lay F h x0 x1 x2) (ZV ρ c) := by
  unfold sX6_lay 
  obtain ⟨r_1, e_r_1, q_r_1⟩ := thR T r_x0 (k := 7) (i := 3) (k2 := 4) rfl (by decide)
  refine s_ref e_r_1 ?_
  refine s_cVfq (S := fS [] [(w_x1, [(34, 999), (35, 999), (36, 999), (37, 999), (38, 999), (4, 5), (4, 6), (4, 8), (4, 9), (4, 10)])]) T (fs_sub pmA_n (fs_c (pmO_s hO_x1 rfl) fs_n)) (s_weq (zX3_copyFrom hF (pmO_e o_x1 (fs_o (.head _)) rfl) (th_in _ T) r_x1 q_r_1)) (fun o_2 T_1 f_o_2 p_o_2 => ?_)
  have eb_o_2 := p_o_2
  refine s_dI0 (zX6_takenIn hF T_1 r_x0 i_x2 gx) (fun o_3 eb_o_3 e_o_3 i_o_3 => ?_)
  have T_2 := th_eq e_o_3 T_1
  obtain ⟨r_4, e_r_4, q_r_4⟩ := thR T_2 r_x0 (k := 7) (i := 0) (k2 := 2) rfl (by decide)
  refine s_ref e_r_4 ?_
  refine s_cVfq (S := fS [] [(w_x1, [(34, 999), (35, 999), (36, 999), (4, 7)])]) T_2 (fs_sub pmA_n (fs_c (pmO_s hO_x1 rfl) fs_n)) (s_weq (zX3_put hF (pmO_e o_x1 (fs_o (.head _)) rfl) (th_in _ T_2) r_x1 (rg_m (rg_and (rg_b rfl : Rg (63) (63) ((63 : Int32))) (by decide) : Rg (0) (63) (((x2 >>> ((6 : Int32) &&& 31)) &&& (63 : Int32)))) (by decide)) (rg_m i_o_3 (by decide)) (rg_m (thI T_2 q_r_4 (k := 2) (i := 4) rfl : Rg (-1) (11) ((hI o_3.2 r_4 4))) (by decide)) (fun _ => (gx).2.2))) (fun o_5 T_3 f_o_5 p_o_5 => ?_)
  have eb_o_5 := p_o_5
  refine s_ref (hr_q (fr_R f_o_5 r_x0 (by decide) rfl rfl) (hr_e e_o_3 (hr_q (fr_R f_o_2 r_x0 (by decide) rfl rfl) e_r_1))) ?_
  refine s_ref (hr_q (fr_R f_o_5 r_x0 (by decide) rfl rfl) e_r_4) ?_
  refine s_cVq (s_weq (zX3_put hF (pmO_e o_x1 hO_x1 rfl) T_3 r_x1 (rg_m (rg_and (rg_b rfl : Rg (63) (63) ((63 : Int32))) (by decide) : Rg (0) (63) ((x2 &&& (63 : Int32)))) (by decide)) (rg_m (rg_add (rg_mulc' (rg_b rfl : Rg (2) (2) ((2 : Int32))) (gq_man gx : Rg (0) (11) (((x2 >>> ((12 : Int32) &&& 31)) &&& (15 : Int32)))) (by decide) : Rg (0) (22) (((2 : Int32) * ((x2 >>> ((12 : Int32) &&& 31)) &&& (15 : Int32))))) (thI T_3 q_r_1 (k := 4) (i := 5) rfl : Rg (0) (1) ((hI o_5 r_1 5))) (by decide) : Rg (0) (23) ((((2 : Int32) * ((x2 >>> ((12 : Int32) &&& 31)) &&& (15 : Int32))) + (hI o_5 r_1 5)))) (by decide)) (rg_m (thI T_3 q_r_4 (k := 2) (i := 4) rfl : Rg (-1) (11) ((hI o_5 r_4 4))) (by decide)) (fun _ => (gx).2.1))) (fun o_8 T_4 p_o_8 => ?_)
  have eb_o_8 := p_o_8
  exact s_some (T_4)
set_option maxRecDepth 20000 in
theorem zX11_freePlace_2 {ρ : Nat → Nat} {c : Cm} {h0 : Hp} {F : Nat} (hF : 700000 ≤ F) : ∀ (f : Nat) {h : Hp} {x0 : Nat} {x1 : Int32}, h = h0 → TH ρ c h → ρ x0 = 12 → Rg (0) (60) (x1) → (60 - x1.toInt).toNat < f → Sat (sX11_freePlace_2 F f h x0 x1) (ZI0 h0 (-1) (59)) := by
  intro f
  induction f with
  | zero => intros; omega
  | succ f ih =>
    intro h x0 x1 E T r_x0 i_x1 hm
    rw [sX11_freePlace_2]
    obtain ⟨C_2, hC_2⟩ : ∃ C : Int, C = x1.toInt := ⟨_, rfl⟩
    have hk_2 : ∀ {h : Hp} {x0 : Nat} {x1 : Int32}, h = h0 → TH ρ c h → ρ x0 = 12 → Rg (0) (60) (x1) → C_2 < x1.toInt → Sat (sX11_freePlace_2 F f h x0 x1) (ZI0 h0 (-1) (59)) := by
      intro h' x0' x1' E' T' r_x0' i_x1' hl
      exact ih E' T' r_x0' i_x1' (by have := i_x1'.1; have := i_x1'.2; omega)
    have hc_2 : C_2 ≤ x1.toInt := by omega
    refine s_br (fun c_1 => ?_) (fun c_1 => ?_)
    · have _ := c_1
      have i_f_2 : Rg (60) (60) (x1) := rg_le2 c_1 (rg_b rfl : Rg (60) (60) ((60 : Int32))) i_x1
      exact s_some ⟨E, (rg_m (rg_b rfl : Rg (-1) (-1) ((- 1 : Int32))) (by decide))⟩
    · have _ := c_1
      have i_f_3 : Rg (0) (59) (x1) := rg_lt1 (nle_lt c_1) i_x1 (rg_b rfl : Rg (60) (60) ((60 : Int32)))
      obtain ⟨r_2, e_r_2, q_r_2⟩ := thR T r_x0 (k := 12) (i := 14) (k2 := 58) rfl (by decide)
      refine s_ref e_r_2 ?_
      refine s_gd (by rw [thN T q_r_2 (k := 58) (n := 60) rfl (by decide)]; exact rg_inB (i_f_3 : Rg (0) (59) (x1)) (by decide)) ?_
      refine s_br (fun c_4 => ?_) (fun c_4 => ?_)
      · have _ := c_4
        have i_f_5 : Rg (0) (0) ((hI h r_2 x1.toNatClampNeg)) := rg_eq c_4 (rg_b rfl : Rg (0) (0) (0 : Int32))
        exact s_some ⟨E, (rg_m i_f_3 (by decide))⟩
      · have _ := c_4
        have i_f_6 : Rg (1) (1) ((hI h r_2 x1.toNatClampNeg)) := rg_nlo c_4 (thI T q_r_2 (k := 58) rfl : Rg (0) (1) ((hI h r_2 x1.toNatClampNeg))) (rg_b rfl : Rg (0) (0) (0 : Int32))
        refine s_q (fun v_5 e_7 => ?_)
        have i_v_5 : Rg (1) (60) (v_5) := by rw [e_7]; exact (rg_add i_f_3 (rg_b rfl : Rg (1) (1) ((1 : Int32))) (by decide) : Rg (1) (60) (x1 + (1 : Int32)))
        have m_8 : (v_5).toInt = x1.toInt + 1 := by rw [e_7]; exact rg_inc i_f_3 (by decide)
        exact hk_2 E T r_x0 (rg_m i_v_5 (by decide)) (by have := hc_2; omega)
set_option maxRecDepth 20000 in
theorem zX11_freePlace {ρ : Nat → Nat} {c : Cm} {F : Nat} (hF : 700000 ≤ F) {h : Hp} {x0 : Nat} (T : TH ρ c h) (r_x0 : ρ x0 = 12) : Sat (sX11_freePlace F h x0) (ZI0 h (-1) (59)) := by
  unfold sX11_freePlace 
  have m_1 : Rg (0) (60) ((0 : Int32)) := (rg_m (rg_b rfl : Rg (0) (0) ((0 : Int32))) (by decide))
  exact zX11_freePlace_2 hF F rfl T r_x0 (rg_m (rg_b rfl : Rg (0) (0) ((0 : Int32))) (by decide)) (by have := m_1.1; have := m_1.2; omega)
set_option maxRecDepth 20000 in
theorem zX6_fillIn {ρ : Nat → Nat} {c : Cm} {F : Nat} {w_x1 : Nat} (hF : 700000 ≤ F) (hO_x1 : pmO c w_x1 [(34, 999), (35, 999), (36, 999), (37, 999), (38, 999), (4, 5), (4, 6), (4, 7), (4, 8), (4, 9), (4, 10)]) {h : Hp} {x0 : Nat} {x1 : Nat} {x2 : Int32} (o_x1 : cw c x1 = w_x1) (T : TH ρ c h) (r_x0 : ρ x0 = 7) (r_x1 : ρ x1 = 4) (i_x2 : Rg (0) (2999) (x2)) : Sat (sX6_fillIn F h x0 x1 x2) (ZV ρ c) := by
  unfold sX6_fillIn sX6_fillIn_23
  refine s_br (fun c_1 => ?_) (fun c_1 => ?_)
  · have _ := c_1
    exact (rc_lt c_1 i_x2 (rg_b rfl : Rg (0) (0) (0 : Int32)) (by decide)).elim
  · have _ := c_1
    refine s_br (fun c_2 => ?_) (fun c_2 => ?_)
    · have _ := c_2
      have i_f_3 : Rg (0) (2999) ((hI h x0 6)) := rg_le1 c_2 (thI T r_x0 (k := 7) (i := 6) rfl : Rg (0) (3000) ((hI h x0 6))) i_x2
      exact s_some (T)
    · have _ := c_2
      have i_f_4 : Rg (1) (3000) ((hI h x0 6)) := rg_lt2 (nle_lt c_2) i_x2 (thI T r_x0 (k := 7) (i := 6) rfl : Rg (0) (3000) ((hI h x0 6)))
      obtain ⟨r_3, e_r_3, q_r_3⟩ := thR T r_x0 (k := 7) (i := 5) (k2 := 48) rfl (by decide)
      refine s_ref e_r_3 ?_
      refine s_gd (by rw [thN T q_r_3 (k := 48) (n := 3000) rfl (by decide)]; exact rg_inB (i_x2 : Rg (0) (2999) (x2)) (by decide)) ?_
      refine s_cV (zX6_lay hF (pmO_s hO_x1 rfl) o_x1 T r_x0 r_x1 (thI T q_r_3 (k := 48) rfl : Rg (-2147483648) (2147483647) ((hI h r_3 x2.toNatClampNeg))) (thG8 T q_r_3)) (fun o_5 T_5 => ?_)
      exact s_some (T_5)
set_option maxRecDepth 20000 in
theorem zX11_beforeAt {ρ : Nat → Nat} {c : Cm} {F : Nat} (hF : 700000 ≤ F) (hA : pmA c [(58, 999)]) (hi_3200 : pmO c 3200 [(34, 999), (35, 999), (36, 999), (37, 999), (38, 999), (4, 5), (4, 6), (4, 7), (4, 8), (4, 9), (4, 10)]) {h : Hp} {x0 : Nat} {x1 : Int32} (T : TH ρ c h) (r_x0 : ρ x0 = 12) (i_x1 : Rg (-2147483648) (2147483647) (x1)) : Sat (sX11_beforeAt F h x0 x1) (ZI ρ c (-104) (59)) := by
  unfold sX11_beforeAt sX11_beforeAt_15
  refine s_br (fun c_1 => ?_) (fun c_1 => ?_)
  · have _ := c_1
    have i_f_2 : Rg (-2147483648) (-1) (x1) := rg_lt1 c_1 i_x1 (rg_b rfl : Rg (0) (0) (0 : Int32))
    exact s_some ⟨(T), (rg_m (rg_b rfl : Rg (-102) (-102) ((- 102 : Int32))) (by decide))⟩
  · have _ := c_1
    have i_f_3 : Rg (0) (2147483647) (x1) := rg_le2 (nlt_le c_1) (rg_b rfl : Rg (0) (0) (0 : Int32)) i_x1
    obtain ⟨r_2, e_r_2, q_r_2⟩ := thR T r_x0 (k := 12) (i := 9) (k2 := 7) rfl (by decide)
    refine s_ref e_r_2 ?_
    refine s_br (fun c_4 => ?_) (fun c_4 => ?_)
    · have _ := c_4
      have i_f_5 : Rg (0) (2999) (x1) := rg_lt1 c_4 i_f_3 (thI T q_r_2 (k := 7) (i := 6) rfl : Rg (0) (3000) ((hI h r_2 6)))
      have i_f_6 : Rg (1) (3000) ((hI h r_2 6)) := rg_lt2 c_4 i_f_3 (thI T q_r_2 (k := 7) (i := 6) rfl : Rg (0) (3000) ((hI h r_2 6)))
      refine s_dI0 (zX11_freePlace hF T r_x0) (fun o_4 eb_o_4 e_o_4 i_o_4 => ?_)
      have T_7 := th_eq e_o_4 T
      refine s_br (fun c_8 => ?_) (fun c_8 => ?_)
      · have _ := c_8
        have i_f_9 : Rg (-1) (-1) (o_4.1) := rg_eq c_8 (rg_b rfl : Rg (-1) (-1) ((- 1 : Int32)))
        exact s_some ⟨(T_7), (rg_m (rg_b rfl : Rg (-104) (-104) ((- 104 : Int32))) (by decide))⟩
      · have _ := c_8
        have i_f_10 : Rg (0) (59) (o_4.1) := rg_nlo c_8 i_o_4 (rg_b rfl : Rg (-1) (-1) ((- 1 : Int32)))
        obtain ⟨r_6, e_r_6, q_r_6⟩ := thR T_7 r_x0 (k := 12) (i := 14) (k2 := 58) rfl (by decide)
        refine s_ref e_r_6 ?_
        refine s_gd (by rw [thN T_7 q_r_6 (k := 58) (n := 60) rfl (by decide)]; exact rg_inB (i_f_10 : Rg (0) (59) (o_4.1)) (by decide)) ?_
        refine s_hq (th_wI T_7 q_r_6 (k := 58) (lo := (0)) (hi := (1)) rfl ((rg_narz _ : Rg (0) (1) ((vp_nar .boolean (1 : Int32)))) : Rg (0) (1) ((vp_nar .boolean (1 : Int32)))) (by decide) (by decide) (pm_a hA rfl)) (fun h_8 T_11 w_12 => ?_)
        refine s_ref (hr_w w_12 (hr_e e_o_4 e_r_2)) ?_
        obtain ⟨r_10, e_r_10, q_r_10⟩ := thR T_11 r_x0 (k := 12) (i := 13) (k2 := 57) rfl (by decide)
        refine s_ref e_r_10 ?_
        refine s_gd (by rw [thN T_11 q_r_10 (k := 57) (n := 60) rfl (by decide)]; exact rg_inB (i_f_10 : Rg (0) (59) (o_4.1)) (by decide)) ?_
        obtain ⟨r_12, e_r_12, q_r_12⟩ := thE T_11 q_r_10 (k := 57) (n := 60) (k2 := 4) (b := 59) (i_f_10 : Rg (0) (59) (o_4.1)) (by decide) (by decide) (by decide)
        refine s_ref e_r_12 ?_
        refine s_cV (zX6_fillIn hF (pmO_s hi_3200 rfl) (th_id T_11 q_r_10 (k := 57) (w := 3200) e_r_12 rfl (by decide)) T_11 q_r_2 q_r_12 i_f_5) (fun o_13 T_13 => ?_)
        exact s_some ⟨(T_13), (rg_m i_f_10 (by decide))⟩
    · have _ := c_4
      exact s_some ⟨(T), (rg_m (rg_b rfl : Rg (-102) (-102) ((- 102 : Int32))) (by decide))⟩
set_option maxRecDepth 20000 in
theorem zX5_mayCatch_28 {ρ : Nat → Nat} {c : Cm} {F : Nat} (hF : 700000 ≤ F) : ∀ (f : Nat) {h : Hp} {x0 : Nat} {x2 : Int32} {x3 : Int32}, TH ρ c h → ρ x0 = 6 → Rg (0) (4096) (x2) → Rg (0) (4096) (x3) → (LwR ρ c h) → (4096 - x3.toInt).toNat < f → Sat (sX5_mayCatch_28 F f h x0 x2 x3) (ZI ρ c (0) (1)) := by
  intro f
  induction f with
  | zero => intros; omega
  | succ f ih =>
    intro h x0 x2 x3 T r_x0 i_x2 i_x3 lw hm
    rw [sX5_mayCatch_28]
    unfold sX5_kindOf
    obtain ⟨C_28, hC_28⟩ : ∃ C : Int, C = x3.toInt := ⟨_, rfl⟩
    have hk_28 : ∀ {h : Hp} {x0 : Nat} {x2 : Int32} {x3 : Int32}, TH ρ c h → ρ x0 = 6 → Rg (0) (4096) (x2) → Rg (0) (4096) (x3) → (LwR ρ c h) → C_28 < x3.toInt → Sat (sX5_mayCatch_28 F f h x0 x2 x3) (ZI ρ c (0) (1)) := by
      intro h' x0' x2' x3' T' r_x0' i_x2' i_x3' lw' hl
      exact ih T' r_x0' i_x2' i_x3' lw' (by have := i_x3'.1; have := i_x3'.2; omega)
    have hc_28 : C_28 ≤ x3.toInt := by omega
    refine s_br (fun c_1 => ?_) (fun c_1 => ?_)
    · have _ := c_1
      exact s_some ⟨(T), (rg_m (rg_b rfl : Rg (0) (0) ((0 : Int32))) (by decide))⟩
    · have _ := c_1
      have i_f_2 : Rg (0) (4095) (x3) := rg_lt1 (nle_lt c_1) i_x3 i_x2
      have i_f_3 : Rg (1) (4096) (x2) := rg_lt2 (nle_lt c_1) i_x3 i_x2
      obtain ⟨r_2, e_r_2, q_r_2⟩ := thR T r_x0 (k := 6) (i := 2) (k2 := 47) rfl (by decide)
      refine s_ref e_r_2 ?_
      refine s_gd (by rw [thN T q_r_2 (k := 47) (n := 4096) rfl (by decide)]; exact rg_inB (i_f_2 : Rg (0) (4095) (x3)) (by decide)) ?_
      refine s_pu (fun o_4z e_4 => ?_)
      try dsimp only
      have i_o_4z : Rg (0) (3) (o_4z) := by rw [e_4]; exact (rg_and (rg_b rfl : Rg (3) (3) ((3 : Int32))) (by decide) : Rg (0) (3) (((hI h r_2 x3.toNatClampNeg) >>> ((24 : Int32) &&& 31)) &&& (3 : Int32)))
      refine s_br (fun c_5 => ?_) (fun c_5 => ?_)
      · have _ := c_5
        have i_f_6 : Rg (1) (1) (o_4z) := rg_eq c_5 (rg_b rfl : Rg (1) (1) ((1 : Int32)))
        exact s_some ⟨(T), (rg_m (rg_b rfl : Rg (1) (1) ((1 : Int32))) (by decide))⟩
      · have _ := c_5
        refine s_q (fun v_6 e_7 => ?_)
        have i_v_6 : Rg (1) (4096) (v_6) := by rw [e_7]; exact (rg_add i_f_2 (rg_b rfl : Rg (1) (1) ((1 : Int32))) (by decide) : Rg (1) (4096) (x3 + (1 : Int32)))
        have m_8 : (v_6).toInt = x3.toInt + 1 := by rw [e_7]; exact rg_inc i_f_2 (by decide)
        exact hk_28 T r_x0 (rg_m i_f_3 (by decide)) (rg_m i_v_6 (by decide)) lw (by have := hc_28; omega)
set_option maxRecDepth 20000 in
theorem zX5_mayCatch {ρ : Nat → Nat} {c : Cm} {F : Nat} {w_x1 : Nat} (hF : 700000 ≤ F) (hA : pmA c [(47, 999), (6, 4), (6, 5), (6, 6), (6, 7), (6, 8), (6, 9)]) (hi_1503 : pmO c 1503 [(34, 999), (35, 999), (36, 999), (37, 999), (38, 999), (4, 5), (4, 6), (4, 7), (4, 8), (4, 9), (4, 10)]) {h : Hp} {x0 : Nat} {x1 : Nat} (o_x1 : cw c x1 = w_x1) (nw_x1_1503 : ¬ w_x1 = 1503) (T : TH ρ c h) (r_x0 : ρ x0 = 6) (r_x1 : ρ x1 = 4) (lw : (LwR ρ c h)) (rt : (RyP ρ c x1 h)) : Sat (sX5_mayCatch F h x0 x1) (ZI ρ c (0) (1)) := by
  unfold sX5_mayCatch sX5_mayCatch_25
  refine s_br (fun c_1 => ?_) (fun c_1 => ?_)
  · have _ := c_1
    have m_2 : Rg (0) (4096) ((0 : Int32)) := (rg_m (rg_b rfl : Rg (0) (0) ((0 : Int32))) (by decide))
    exact zX5_mayCatch_28 hF F T r_x0 (rg_m (rg_b rfl : Rg (0) (0) ((0 : Int32))) (by decide)) (rg_m (rg_b rfl : Rg (0) (0) ((0 : Int32))) (by decide)) lw (by have := m_2.1; have := m_2.2; omega)
  · have _ := c_1
    obtain ⟨r_2, e_r_2, q_r_2⟩ := thR T r_x0 (k := 6) (i := 2) (k2 := 47) rfl (by decide)
    refine s_ref e_r_2 ?_
    refine s_cIf (S := fS [(47, 999), (6, 4), (6, 5), (6, 6), (6, 7), (6, 8), (6, 9)] [(1503, [(34, 999), (35, 999), (36, 999), (37, 999), (38, 999), (4, 5), (4, 6), (4, 7), (4, 8), (4, 9), (4, 10)])]) T (fs_sub (pmA_s hA rfl) (fs_c (pmO_s hi_1503 rfl) fs_n)) (zX5_collect hF fs_a (fs_o (.head _)) o_x1 (th_id T r_x0 (k := 6) (i := 2) (w := 1502) e_r_2 rfl (by decide)) nw_x1_1503 (th_in _ T) r_x0 r_x1 q_r_2 (rg_m (rg_b rfl : Rg (4096) (4096) ((4096 : Int32))) (by decide)) lw rt) (fun o_3 T_3 i_o_3 f_o_3 => ?_)
    have pf_4 : LwR ρ c o_3.2 := (lw_fr T  f_o_3 (fun _ => rfl) (fun _ => rfl) (fun _ => rfl) lw)
    have m_5 : Rg (0) (4096) ((0 : Int32)) := (rg_m (rg_b rfl : Rg (0) (0) ((0 : Int32))) (by decide))
    exact zX5_mayCatch_28 hF F T_3 r_x0 i_o_3 (rg_m (rg_b rfl : Rg (0) (0) ((0 : Int32))) (by decide)) pf_4 (by have := m_5.1; have := m_5.2; omega)
set_option maxRecDepth 20000 in
theorem zX5_areAlike_89 {ρ : Nat → Nat} {c : Cm} {F : Nat} {w_x1 w_x2 : Nat} (hF : 700000 ≤ F) (hA : pmA c [(47, 999), (6, 4), (6, 5), (6, 6), (6, 7), (6, 8), (6, 9)]) (hi_1503 : pmO c 1503 [(34, 999), (35, 999), (36, 999), (37, 999), (38, 999), (4, 5), (4, 6), (4, 7), (4, 8), (4, 9), (4, 10)]) : ∀ (f : Nat) {h : Hp} {x0 : Nat} {x1 : Nat} {x2 : Nat} {x3 : Int32}, cw c x1 = w_x1 → cw c x2 = w_x2 → ¬ w_x1 = 1503 → ¬ w_x2 = 1503 → TH ρ c h → ρ x0 = 6 → ρ x1 = 4 → ρ x2 = 4 → Rg (0) (64) (x3) → (LwR ρ c h) → (RyP ρ c x1 h) → (RyP ρ c x2 h) → (64 - x3.toInt).toNat < f → Sat (sX5_areAlike_89 F f h x0 x1 x2 x3) (ZI ρ c (0) (1)) := by
  intro f
  induction f with
  | zero => intros; omega
  | succ f ih =>
    intro h x0 x1 x2 x3 o_x1 o_x2 nw_x1_1503 nw_x2_1503 T r_x0 r_x1 r_x2 i_x3 lw rt rt2 hm
    rw [sX5_areAlike_89]
    unfold sX5_areAlike_151 sX5_areAlike_156 sX5_areAlike_155
    obtain ⟨C_89, hC_89⟩ : ∃ C : Int, C = x3.toInt := ⟨_, rfl⟩
    have hk_89 : ∀ {h : Hp} {x0 : Nat} {x1 : Nat} {x2 : Nat} {x3 : Int32}, cw c x1 = w_x1 → cw c x2 = w_x2 → ¬ w_x1 = 1503 → ¬ w_x2 = 1503 → TH ρ c h → ρ x0 = 6 → ρ x1 = 4 → ρ x2 = 4 → Rg (0) (64) (x3) → (LwR ρ c h) → (RyP ρ c x1 h) → (RyP ρ c x2 h) → C_89 < x3.toInt → Sat (sX5_areAlike_89 F f h x0 x1 x2 x3) (ZI ρ c (0) (1)) := by
      intro h' x0' x1' x2' x3' o_x1' o_x2' nw_x1_1503' nw_x2_1503' T' r_x0' r_x1' r_x2' i_x3' lw' rt' rt2' hl
      exact ih o_x1' o_x2' nw_x1_1503' nw_x2_1503' T' r_x0' r_x1' r_x2' i_x3' lw' rt' rt2' (by have := i_x3'.1; have := i_x3'.2; omega)
    have hc_89 : C_89 ≤ x3.toInt := by omega
    obtain ⟨r_1, e_r_1, q_r_1⟩ := thR T r_x0 (k := 6) (i := 0) (k2 := 2) rfl (by decide)
    refine s_ref e_r_1 ?_
    refine s_br (fun c_1 => ?_) (fun c_1 => ?_)
    · have _ := c_1
      refine s_br (fun c_2 => ?_) (fun c_2 => ?_)
      · have _ := c_2
        refine s_gd (rg_bool (rg_m (rg_b rfl : Rg (1) (1) ((1 : Int32))) (by decide))) ?_
        exact s_some ⟨(T), (rg_m (rg_b rfl : Rg (1) (1) ((1 : Int32))) (by decide))⟩
      · have _ := c_2
        refine s_cIf (S := fS [(47, 999), (6, 4), (6, 5), (6, 6), (6, 7), (6, 8), (6, 9)] [(1503, [(34, 999), (35, 999), (36, 999), (37, 999), (38, 999), (4, 5), (4, 6), (4, 7), (4, 8), (4, 9), (4, 10)])]) T (fs_sub (pmA_s hA rfl) (fs_c (pmO_s hi_1503 rfl) fs_n)) (zX5_mayCatch hF fs_a (fs_o (.head _)) o_x1 nw_x1_1503 (th_in _ T) r_x0 r_x1 lw rt) (fun o_4 T_3 i_o_4 f_o_4 => ?_)
        refine s_br (fun c_4 => ?_) (fun c_4 => ?_)
        · have _ := c_4
          have i_f_5 : Rg (0) (0) (o_4.1) := rg_eq c_4 (rg_b rfl : Rg (0) (0) (0 : Int32))
          have pf_6 : LwR ρ c o_4.2 := (lw_fr T  f_o_4 (fun _ => rfl) (fun _ => rfl) (fun _ => rfl) lw)
          have pf_7 : RyP ρ c x2 o_4.2 := (ry_fr T r_x2 f_o_4 rfl (by rw [o_x2]; intro _; exact fs_cf (Or.inr nw_x2_1503) (fs_nf rfl)) (fun _ => rfl) rt2)
          refine s_cI (zX5_mayCatch hF (pmA_s hA rfl) (pmO_s hi_1503 rfl) o_x2 nw_x2_1503 T_3 r_x0 r_x2 pf_6 pf_7) (fun o_6 T_8 i_o_6 => ?_)
          refine s_br (fun c_9 => ?_) (fun c_9 => ?_)
          · have _ := c_9
            have i_f_10 : Rg (0) (0) (o_6.1) := rg_eq c_9 (rg_b rfl : Rg (0) (0) (0 : Int32))
            refine s_gd (rg_bool (rg_m (rg_b rfl : Rg (1) (1) ((1 : Int32))) (by decide))) ?_
            exact s_some ⟨(T_8), (rg_m (rg_b rfl : Rg (1) (1) ((1 : Int32))) (by decide))⟩
          · have _ := c_9
            have i_f_11 : Rg (1) (1) (o_6.1) := rg_nlo c_9 i_o_6 (rg_b rfl : Rg (0) (0) (0 : Int32))
            refine s_gd (rg_bool (rg_m (rg_b rfl : Rg (0) (0) ((0 : Int32))) (by decide))) ?_
            exact s_some ⟨(T_8), (rg_m (rg_b rfl : Rg (0) (0) ((0 : Int32))) (by decide))⟩
        · have _ := c_4
          have i_f_12 : Rg (1) (1) (o_4.1) := rg_nlo c_4 i_o_4 (rg_b rfl : Rg (0) (0) (0 : Int32))
          refine s_gd (rg_bool (rg_m (rg_b rfl : Rg (0) (0) ((0 : Int32))) (by decide))) ?_
          exact s_some ⟨(T_3), (rg_m (rg_b rfl : Rg (0) (0) ((0 : Int32))) (by decide))⟩
    · have _ := c_1
      have i_f_13 : Rg (0) (63) (x3) := rg_lt1 (nle_lt c_1) i_x3 (thI T q_r_1 (k := 2) (i := 2) rfl : Rg (0) (64) ((hI h r_1 2)))
      have i_f_14 : Rg (1) (64) ((hI h r_1 2)) := rg_lt2 (nle_lt c_1) i_x3 (thI T q_r_1 (k := 2) (i := 2) rfl : Rg (0) (64) ((hI h r_1 2)))
      obtain ⟨r_8, e_r_8, q_r_8⟩ := thR T r_x1 (k := 4) (i := 0) (k2 := 34) rfl (by decide)
      refine s_ref e_r_8 ?_
      refine s_gd (by rw [thN T q_r_8 (k := 34) (n := 64) rfl (by decide)]; exact rg_inB (i_f_13 : Rg (0) (63) (x3)) (by decide)) ?_
      obtain ⟨r_10, e_r_10, q_r_10⟩ := thR T r_x2 (k := 4) (i := 0) (k2 := 34) rfl (by decide)
      refine s_ref e_r_10 ?_
      refine s_gd (by rw [thN T q_r_10 (k := 34) (n := 64) rfl (by decide)]; exact rg_inB (i_f_13 : Rg (0) (63) (x3)) (by decide)) ?_
      refine s_br (fun c_15 => ?_) (fun c_15 => ?_)
      · have _ := c_15
        refine s_q (fun v_13 e_16 => ?_)
        have i_v_13 : Rg (1) (64) (v_13) := by rw [e_16]; exact (rg_add i_f_13 (rg_b rfl : Rg (1) (1) ((1 : Int32))) (by decide) : Rg (1) (64) (x3 + (1 : Int32)))
        have m_17 : (v_13).toInt = x3.toInt + 1 := by rw [e_16]; exact rg_inc i_f_13 (by decide)
        exact hk_89 o_x1 o_x2 nw_x1_1503 nw_x2_1503 T r_x0 r_x1 r_x2 (rg_m i_v_13 (by decide)) lw rt rt2 (by have := hc_89; omega)
      · have _ := c_15
        exact s_some ⟨(T), (rg_m (rg_b rfl : Rg (0) (0) ((0 : Int32))) (by decide))⟩
set_option maxRecDepth 20000 in
theorem zX5_areAlike_27 {ρ : Nat → Nat} {c : Cm} {F : Nat} {w_x1 w_x2 : Nat} (hF : 700000 ≤ F) (hA : pmA c [(47, 999), (6, 4), (6, 5), (6, 6), (6, 7), (6, 8), (6, 9)]) (hi_1503 : pmO c 1503 [(34, 999), (35, 999), (36, 999), (37, 999), (38, 999), (4, 5), (4, 6), (4, 7), (4, 8), (4, 9), (4, 10)]) : ∀ (f : Nat) {h : Hp} {x0 : Nat} {x1 : Nat} {x2 : Nat} {x3 : Int32}, cw c x1 = w_x1 → cw c x2 = w_x2 → ¬ w_x1 = 1503 → ¬ w_x2 = 1503 → TH ρ c h → ρ x0 = 6 → ρ x1 = 4 → ρ x2 = 4 → Rg (0) (2) (x3) → (LwR ρ c h) → (RyP ρ c x1 h) → (RyP ρ c x2 h) → (2 - x3.toInt).toNat < f → Sat (sX5_areAlike_27 F f h x0 x1 x2 x3) (ZI ρ c (0) (1)) := by
  intro f
  induction f with
  | zero => intros; omega
  | succ f ih =>
    intro h x0 x1 x2 x3 o_x1 o_x2 nw_x1_1503 nw_x2_1503 T r_x0 r_x1 r_x2 i_x3 lw rt rt2 hm
    rw [sX5_areAlike_27]
    unfold sX5_areAlike_79
    obtain ⟨C_27, hC_27⟩ : ∃ C : Int, C = x3.toInt := ⟨_, rfl⟩
    have hk_27 : ∀ {h : Hp} {x0 : Nat} {x1 : Nat} {x2 : Nat} {x3 : Int32}, cw c x1 = w_x1 → cw c x2 = w_x2 → ¬ w_x1 = 1503 → ¬ w_x2 = 1503 → TH ρ c h → ρ x0 = 6 → ρ x1 = 4 → ρ x2 = 4 → Rg (0) (2) (x3) → (LwR ρ c h) → (RyP ρ c x1 h) → (RyP ρ c x2 h) → C_27 < x3.toInt → Sat (sX5_areAlike_27 F f h x0 x1 x2 x3) (ZI ρ c (0) (1)) := by
      intro h' x0' x1' x2' x3' o_x1' o_x2' nw_x1_1503' nw_x2_1503' T' r_x0' r_x1' r_x2' i_x3' lw' rt' rt2' hl
      exact ih o_x1' o_x2' nw_x1_1503' nw_x2_1503' T' r_x0' r_x1' r_x2' i_x3' lw' rt' rt2' (by have := i_x3'.1; have := i_x3'.2; omega)
    have hc_27 : C_27 ≤ x3.toInt := by omega
    refine s_br (fun c_1 => ?_) (fun c_1 => ?_)
    · have _ := c_1
      have i_f_2 : Rg (2) (2) (x3) := rg_le2 c_1 (rg_b rfl : Rg (2) (2) ((2 : Int32))) i_x3
      have m_3 : Rg (0) (64) ((0 : Int32)) := (rg_m (rg_b rfl : Rg (0) (0) ((0 : Int32))) (by decide))
      exact zX5_areAlike_89 hF (pmA_s hA rfl) (pmO_s hi_1503 rfl) F o_x1 o_x2 nw_x1_1503 nw_x2_1503 T r_x0 r_x1 r_x2 (rg_m (rg_b rfl : Rg (0) (0) ((0 : Int32))) (by decide)) lw rt rt2 (by have := m_3.1; have := m_3.2; omega)
    · have _ := c_1
      have i_f_4 : Rg (0) (1) (x3) := rg_lt1 (nle_lt c_1) i_x3 (rg_b rfl : Rg (2) (2) ((2 : Int32)))
      obtain ⟨r_2, e_r_2, q_r_2⟩ := thR T r_x1 (k := 4) (i := 1) (k2 := 35) rfl (by decide)
      refine s_ref e_r_2 ?_
      refine s_gd (by rw [thN T q_r_2 (k := 35) (n := 2) rfl (by decide)]; exact rg_inB (i_f_4 : Rg (0) (1) (x3)) (by decide)) ?_
      obtain ⟨r_4, e_r_4, q_r_4⟩ := thR T r_x2 (k := 4) (i := 1) (k2 := 35) rfl (by decide)
      refine s_ref e_r_4 ?_
      refine s_gd (by rw [thN T q_r_4 (k := 35) (n := 2) rfl (by decide)]; exact rg_inB (i_f_4 : Rg (0) (1) (x3)) (by decide)) ?_
      refine s_br (fun c_5 => ?_) (fun c_5 => ?_)
      · have _ := c_5
        obtain ⟨r_7, e_r_7, q_r_7⟩ := thR T r_x1 (k := 4) (i := 3) (k2 := 37) rfl (by decide)
        refine s_ref e_r_7 ?_
        refine s_gd (by rw [thN T q_r_7 (k := 37) (n := 2) rfl (by decide)]; exact rg_inB (i_f_4 : Rg (0) (1) (x3)) (by decide)) ?_
        obtain ⟨r_9, e_r_9, q_r_9⟩ := thR T r_x2 (k := 4) (i := 3) (k2 := 37) rfl (by decide)
        refine s_ref e_r_9 ?_
        refine s_gd (by rw [thN T q_r_9 (k := 37) (n := 2) rfl (by decide)]; exact rg_inB (i_f_4 : Rg (0) (1) (x3)) (by decide)) ?_
        refine s_br (fun c_6 => ?_) (fun c_6 => ?_)
        · have _ := c_6
          obtain ⟨r_12, e_r_12, q_r_12⟩ := thR T r_x1 (k := 4) (i := 4) (k2 := 38) rfl (by decide)
          refine s_ref e_r_12 ?_
          refine s_gd (by rw [thN T q_r_12 (k := 38) (n := 2) rfl (by decide)]; exact rg_inB (i_f_4 : Rg (0) (1) (x3)) (by decide)) ?_
          obtain ⟨r_14, e_r_14, q_r_14⟩ := thR T r_x2 (k := 4) (i := 4) (k2 := 38) rfl (by decide)
          refine s_ref e_r_14 ?_
          refine s_gd (by rw [thN T q_r_14 (k := 38) (n := 2) rfl (by decide)]; exact rg_inB (i_f_4 : Rg (0) (1) (x3)) (by decide)) ?_
          refine s_br (fun c_7 => ?_) (fun c_7 => ?_)
          · have _ := c_7
            refine s_q (fun v_17 e_8 => ?_)
            have i_v_17 : Rg (1) (2) (v_17) := by rw [e_8]; exact (rg_add i_f_4 (rg_b rfl : Rg (1) (1) ((1 : Int32))) (by decide) : Rg (1) (2) (x3 + (1 : Int32)))
            have m_9 : (v_17).toInt = x3.toInt + 1 := by rw [e_8]; exact rg_inc i_f_4 (by decide)
            exact hk_27 o_x1 o_x2 nw_x1_1503 nw_x2_1503 T r_x0 r_x1 r_x2 (rg_m i_v_17 (by decide)) lw rt rt2 (by have := hc_27; omega)
          · have _ := c_7
            exact s_some ⟨(T), (rg_m (rg_b rfl : Rg (0) (0) ((0 : Int32))) (by decide))⟩
        · have _ := c_6
          exact s_some ⟨(T), (rg_m (rg_b rfl : Rg (0) (0) ((0 : Int32))) (by decide))⟩
      · have _ := c_5
        exact s_some ⟨(T), (rg_m (rg_b rfl : Rg (0) (0) ((0 : Int32))) (by decide))⟩
set_option maxRecDepth 20000 in
theorem zX5_areAlike {ρ : Nat → Nat} {c : Cm} {F : Nat} {w_x1 w_x2 : Nat} (hF : 700000 ≤ F) (hA : pmA c [(47, 999), (6, 4), (6, 5), (6, 6), (6, 7), (6, 8), (6, 9)]) (hi_1503 : pmO c 1503 [(34, 999), (35, 999), (36, 999), (37, 999), (38, 999), (4, 5), (4, 6), (4, 7), (4, 8), (4, 9), (4, 10)]) {h : Hp} {x0 : Nat} {x1 : Nat} {x2 : Nat} (o_x1 : cw c x1 = w_x1) (o_x2 : cw c x2 = w_x2) (nw_x1_1503 : ¬ w_x1 = 1503) (nw_x2_1503 : ¬ w_x2 = 1503) (T : TH ρ c h) (r_x0 : ρ x0 = 6) (r_x1 : ρ x1 = 4) (r_x2 : ρ x2 = 4) (lw : (LwR ρ c h)) (rt : (RyP ρ c x1 h)) (rt2 : (RyP ρ c x2 h)) : Sat (sX5_areAlike F h x0 x1 x2) (ZI ρ c (0) (1)) := by
  unfold sX5_areAlike sX5_areAlike_23
  refine s_br (fun c_1 => ?_) (fun c_1 => ?_)
  · have _ := c_1
    refine s_br (fun c_2 => ?_) (fun c_2 => ?_)
    · have _ := c_2
      have m_3 : Rg (0) (2) ((0 : Int32)) := (rg_m (rg_b rfl : Rg (0) (0) ((0 : Int32))) (by decide))
      exact zX5_areAlike_27 hF (pmA_s hA rfl) (pmO_s hi_1503 rfl) F o_x1 o_x2 nw_x1_1503 nw_x2_1503 T r_x0 r_x1 r_x2 (rg_m (rg_b rfl : Rg (0) (0) ((0 : Int32))) (by decide)) lw rt rt2 (by have := m_3.1; have := m_3.2; omega)
    · have _ := c_2
      exact s_some ⟨(T), (rg_m (rg_b rfl : Rg (0) (0) ((0 : Int32))) (by decide))⟩
  · have _ := c_1
    exact s_some ⟨(T), (rg_m (rg_b rfl : Rg (0) (0) ((0 : Int32))) (by decide))⟩
set_option maxRecDepth 20000 in
theorem zX11_listMoves {ρ : Nat → Nat} {c : Cm} {F : Nat} (hF : 700000 ≤ F) (hA : pmA c [(47, 999), (6, 4), (6, 5), (6, 6), (6, 7), (6, 8), (6, 9)]) (hi_1503 : pmO c 1503 [(34, 999), (35, 999), (36, 999), (37, 999), (38, 999), (4, 5), (4, 6), (4, 7), (4, 8), (4, 9), (4, 10)]) {h : Hp} {x0 : Nat} {x1 : Int32} (T : TH ρ c h) (r_x0 : ρ x0 = 12) (i_x1 : Rg (-2147483648) (2147483647) (x1)) (lw : (LwR ρ c h)) (pl : (PlP ρ c x0 h)) : Sat (sX11_listMoves F h x0 x1) (ZQ (ZI ρ c (0) (4096)) (fun o => (o.1.toInt = 0 ∨ (0 ≤ x1.toInt ∧ x1.toInt ≤ 59)) ∧ ((¬ o.1.toInt = 0) → HasR ρ c x0 x1 o.2))) := by
  unfold sX11_listMoves sX11_listMoves_32
  refine s_dP0 (zX11_isPlace hF T r_x0 i_x1) (fun o_1 eb_o_1 e_o_1 i_o_1 p_o_1 => ?_)
  have T_1 := th_eq e_o_1 T
  refine s_br (fun c_2 => ?_) (fun c_2 => ?_)
  · have _ := c_2
    have i_f_3 : Rg (0) (0) (o_1.1) := rg_eq c_2 (rg_b rfl : Rg (0) (0) (0 : Int32))
    exact s_some ⟨⟨(T_1), (rg_m (rg_b rfl : Rg (0) (0) ((0 : Int32))) (by decide))⟩, ⟨(show ((0 : Int32)).toInt = 0 ∨ (0 ≤ x1.toInt ∧ x1.toInt ≤ 59) from (by have : ((0 : Int32)).toInt = 0 := rfl; have := (i_x1 : Rg (-2147483648) (2147483647) (x1)).1; have := (i_x1 : Rg (-2147483648) (2147483647) (x1)).2; have : (o_1.1).toInt = 0 ∨ (0 ≤ (x1).toInt ∧ (x1).toInt ≤ 59) := p1_or p_o_1; have := (i_f_3 : Rg (0) (0) (o_1.1)).1; have := (i_f_3 : Rg (0) (0) (o_1.1)).2; have := eq_i c_2; have : (0 : Int32).toInt = 0 := rfl; omega)), (fun q => absurd q (show ¬ (¬ ((0 : Int32)).toInt = 0) from (by have : ((0 : Int32)).toInt = 0 := rfl; omega)))⟩⟩
  · have _ := c_2
    have i_f_4 : Rg (1) (1) (o_1.1) := rg_nlo c_2 i_o_1 (rg_b rfl : Rg (0) (0) (0 : Int32))
    have p_f_5 := p_o_1 c_2
    obtain ⟨r_3, e_r_3, q_r_3⟩ := thR T_1 r_x0 (k := 12) (i := 6) (k2 := 6) rfl (by decide)
    refine s_ref e_r_3 ?_
    obtain ⟨r_4, e_r_4, q_r_4⟩ := thR T_1 r_x0 (k := 12) (i := 13) (k2 := 57) rfl (by decide)
    refine s_ref e_r_4 ?_
    refine s_gd (by rw [thN T_1 q_r_4 (k := 57) (n := 60) rfl (by decide)]; exact rg_inB (p_f_5 : Rg (0) (59) (x1)) (by decide)) ?_
    obtain ⟨r_6, e_r_6, q_r_6⟩ := thE T_1 q_r_4 (k := 57) (n := 60) (k2 := 4) (b := 59) (p_f_5 : Rg (0) (59) (x1)) (by decide) (by decide) (by decide)
    refine s_ref e_r_6 ?_
    obtain ⟨r_7, e_r_7, q_r_7⟩ := thR T_1 r_x0 (k := 12) (i := 12) (k2 := 47) rfl (by decide)
    refine s_ref e_r_7 ?_
    have pf_6 : LwR ρ c o_1.2 := (by rw [e_o_1]; exact lw)
    have pf_7 : HasR ρ c x0 x1 o_1.2 := (by rw [e_o_1]; exact (hr_of T r_x0 pl eb_o_1 c_2))
    refine s_cIf (S := fS [(47, 999), (6, 4), (6, 5), (6, 6), (6, 7), (6, 8), (6, 9)] [(1503, [(34, 999), (35, 999), (36, 999), (37, 999), (38, 999), (4, 5), (4, 6), (4, 7), (4, 8), (4, 9), (4, 10)])]) T_1 (fs_sub (pmA_s hA rfl) (fs_c (pmO_s hi_1503 rfl) fs_n)) (zX5_collect hF fs_a (fs_o (.head _)) (th_id T_1 q_r_4 (k := 57) (w := 3200) e_r_6 rfl (by decide)) (th_id T_1 r_x0 (k := 12) (i := 12) (w := 2112) e_r_7 rfl (by decide)) (by decide) (th_in _ T_1) q_r_3 q_r_6 q_r_7 (rg_m (rg_b rfl : Rg (4096) (4096) ((4096 : Int32))) (by decide)) pf_6 (pf_7.2 _ e_r_4 _ e_r_6)) (fun o_8 T_8 i_o_8 f_o_8 => ?_)
    have pf_9 : HasR ρ c x0 x1 o_8.2 := (hr_fr T_1 r_x0 f_o_8 (fun _ => rfl) (fun _ _ => rfl) rfl (fun _ => rfl) (fun _ => rfl) pf_7)
    exact s_some ⟨⟨(T_8), i_o_8⟩, ⟨(show (o_8.1).toInt = 0 ∨ (0 ≤ x1.toInt ∧ x1.toInt ≤ 59) from (by have := (i_o_8 : Rg (0) (4096) (o_8.1)).1; have := (i_o_8 : Rg (0) (4096) (o_8.1)).2; have := (p_f_5 : Rg (0) (59) (x1)).1; have := (p_f_5 : Rg (0) (59) (x1)).2; omega)), (fun _ => pf_9)⟩⟩
set_option maxRecDepth 20000 in
theorem zX11_countPlaces_4 {ρ : Nat → Nat} {c : Cm} {h0 : Hp} {F : Nat} (hF : 700000 ≤ F) : ∀ (f : Nat) {h : Hp} {x0 : Nat} {x1 : Int32} {x2 : Int32}, h = h0 → TH ρ c h → ρ x0 = 12 → Rg (-2147483648) (2147483647) (x1) → Rg (0) (60) (x2) → (60 - x2.toInt).toNat < f → Sat (sX11_countPlaces_4 F f h x0 x1 x2) (ZI0 h0 (-2147483648) (2147483647)) := by
  intro f
  induction f with
  | zero => intros; omega
  | succ f ih =>
    intro h x0 x1 x2 E T r_x0 i_x1 i_x2 hm
    rw [sX11_countPlaces_4]
    unfold sX11_countPlaces_25
    obtain ⟨C_4, hC_4⟩ : ∃ C : Int, C = x2.toInt := ⟨_, rfl⟩
    have hk_4 : ∀ {h : Hp} {x0 : Nat} {x1 : Int32} {x2 : Int32}, h = h0 → TH ρ c h → ρ x0 = 12 → Rg (-2147483648) (2147483647) (x1) → Rg (0) (60) (x2) → C_4 < x2.toInt → Sat (sX11_countPlaces_4 F f h x0 x1 x2) (ZI0 h0 (-2147483648) (2147483647)) := by
      intro h' x0' x1' x2' E' T' r_x0' i_x1' i_x2' hl
      exact ih E' T' r_x0' i_x1' i_x2' (by have := i_x2'.1; have := i_x2'.2; omega)
    have hc_4 : C_4 ≤ x2.toInt := by omega
    refine s_br (fun c_1 => ?_) (fun c_1 => ?_)
    · have _ := c_1
      have i_f_2 : Rg (60) (60) (x2) := rg_le2 c_1 (rg_b rfl : Rg (60) (60) ((60 : Int32))) i_x2
      exact s_some ⟨E, i_x1⟩
    · have _ := c_1
      have i_f_3 : Rg (0) (59) (x2) := rg_lt1 (nle_lt c_1) i_x2 (rg_b rfl : Rg (60) (60) ((60 : Int32)))
      obtain ⟨r_2, e_r_2, q_r_2⟩ := thR T r_x0 (k := 12) (i := 14) (k2 := 58) rfl (by decide)
      refine s_ref e_r_2 ?_
      refine s_gd (by rw [thN T q_r_2 (k := 58) (n := 60) rfl (by decide)]; exact rg_inB (i_f_3 : Rg (0) (59) (x2)) (by decide)) ?_
      refine s_br (fun c_4 => ?_) (fun c_4 => ?_)
      · have _ := c_4
        have i_f_5 : Rg (0) (0) ((hI h r_2 x2.toNatClampNeg)) := rg_eq c_4 (rg_b rfl : Rg (0) (0) (0 : Int32))
        refine s_q (fun v_1q1 e_6 => ?_)
        have i_v_1q1 : Rg (-2147483648) (2147483647) (v_1q1) := by rw [e_6]; exact (rg_add i_x1 (rg_b rfl : Rg (0) (0) ((0 : Int32))) (by decide) : Rg (-2147483648) (2147483647) (x1 + (0 : Int32)))
        refine s_q (fun v_2q1 e_7 => ?_)
        have i_v_2q1 : Rg (1) (60) (v_2q1) := by rw [e_7]; exact (rg_add i_f_3 (rg_b rfl : Rg (1) (1) ((1 : Int32))) (by decide) : Rg (1) (60) (x2 + (1 : Int32)))
        have m_8 : (v_2q1).toInt = x2.toInt + 1 := by rw [e_7]; exact rg_inc i_f_3 (by decide)
        exact hk_4 E T r_x0 i_v_1q1 (rg_m i_v_2q1 (by decide)) (by have := hc_4; omega)
      · have _ := c_4
        have i_f_9 : Rg (1) (1) ((hI h r_2 x2.toNatClampNeg)) := rg_nlo c_4 (thI T q_r_2 (k := 58) rfl : Rg (0) (1) ((hI h r_2 x2.toNatClampNeg))) (rg_b rfl : Rg (0) (0) (0 : Int32))
        refine s_q (fun v_1q2 e_10 => ?_)
        have i_v_1q2 : Rg (-2147483648) (2147483647) (v_1q2) := by rw [e_10]; exact (rg_top _ : Rg (-2147483648) (2147483647) (x1 + (1 : Int32)))
        refine s_q (fun v_2q2 e_11 => ?_)
        have i_v_2q2 : Rg (1) (60) (v_2q2) := by rw [e_11]; exact (rg_add i_f_3 (rg_b rfl : Rg (1) (1) ((1 : Int32))) (by decide) : Rg (1) (60) (x2 + (1 : Int32)))
        have m_12 : (v_2q2).toInt = x2.toInt + 1 := by rw [e_11]; exact rg_inc i_f_3 (by decide)
        exact hk_4 E T r_x0 i_v_1q2 (rg_m i_v_2q2 (by decide)) (by have := hc_4; omega)
set_option maxRecDepth 20000 in
theorem zX11_countPlaces {ρ : Nat → Nat} {c : Cm} {F : Nat} (hF : 700000 ≤ F) {h : Hp} {x0 : Nat} (T : TH ρ c h) (r_x0 : ρ x0 = 12) : Sat (sX11_countPlaces F h x0) (ZI0 h (-2147483648) (2147483647)) := by
  unfold sX11_countPlaces 
  have m_1 : Rg (0) (60) ((0 : Int32)) := (rg_m (rg_b rfl : Rg (0) (0) ((0 : Int32))) (by decide))
  exact zX11_countPlaces_4 hF F rfl T r_x0 (rg_m (rg_b rfl : Rg (0) (0) ((0 : Int32))) (by decide)) (rg_m (rg_b rfl : Rg (0) (0) ((0 : Int32))) (by decide)) (by have := m_1.1; have := m_1.2; omega)
set_option maxRecDepth 20000 in
theorem zX4_forget {ρ : Nat → Nat} {c : Cm} {F : Nat} (hF : 700000 ≤ F) (hA : pmA c [(5, 14), (5, 15), (5, 16)]) {h : Hp} {x0 : Nat} {x1 : Int32} (T : TH ρ c h) (r_x0 : ρ x0 = 5) (i_x1 : Rg (0) (59) (x1)) : Sat (sX4_forget h x0 x1) (ZV ρ c) := by
  unfold sX4_forget sX4_forget_23
  refine s_br (fun c_1 => ?_) (fun c_1 => ?_)
  · have _ := c_1
    have i_f_2 : Rg (0) (59) ((hI h x0 16)) := rg_eq c_1 i_x1
    refine s_hq (th_wI T r_x0 (k := 5) (lo := (-1)) (hi := (59)) rfl ((rg_m (rg_b rfl : Rg (-1) (-1) ((- 1 : Int32))) (by decide)) : Rg (-1) (59) ((- 1 : Int32))) (by decide) (by decide) (pm_a hA rfl)) (fun h_2 T_3 w_4 => ?_)
    refine s_hq (th_wI T_3 r_x0 (k := 5) (lo := (0)) (hi := (4096)) rfl ((rg_m (rg_b rfl : Rg (0) (0) ((0 : Int32))) (by decide)) : Rg (0) (4096) ((0 : Int32))) (by decide) (by decide) (pm_a hA rfl)) (fun h_3 T_5 w_6 => ?_)
    refine s_hq (th_wI T_5 r_x0 (k := 5) (lo := (0)) (hi := (4096)) rfl ((rg_m (rg_b rfl : Rg (0) (0) ((0 : Int32))) (by decide)) : Rg (0) (4096) ((0 : Int32))) (by decide) (by decide) (pm_a hA rfl)) (fun h_4 T_7 w_8 => ?_)
    exact s_some (T_7)
  · have _ := c_1
    exact s_some (T)
set_option maxRecDepth 20000 in
theorem zX11_drop {ρ : Nat → Nat} {c : Cm} {F : Nat} (hF : 700000 ≤ F) (hA : pmA c [(58, 999), (5, 14), (5, 15), (5, 16)]) {h : Hp} {x0 : Nat} {x1 : Int32} (T : TH ρ c h) (r_x0 : ρ x0 = 12) (i_x1 : Rg (-2147483648) (2147483647) (x1)) : Sat (sX11_drop h x0 x1) (ZI ρ c (-102) (1)) := by
  unfold sX11_drop 
  refine s_dP0 (zX11_isPlace hF T r_x0 i_x1) (fun o_1 eb_o_1 e_o_1 i_o_1 p_o_1 => ?_)
  have T_1 := th_eq e_o_1 T
  refine s_br (fun c_2 => ?_) (fun c_2 => ?_)
  · have _ := c_2
    have i_f_3 : Rg (0) (0) (o_1.1) := rg_eq c_2 (rg_b rfl : Rg (0) (0) (0 : Int32))
    exact s_some ⟨(T_1), (rg_m (rg_b rfl : Rg (-102) (-102) ((- 102 : Int32))) (by decide))⟩
  · have _ := c_2
    have i_f_4 : Rg (1) (1) (o_1.1) := rg_nlo c_2 i_o_1 (rg_b rfl : Rg (0) (0) (0 : Int32))
    have p_f_5 := p_o_1 c_2
    obtain ⟨r_3, e_r_3, q_r_3⟩ := thR T_1 r_x0 (k := 12) (i := 14) (k2 := 58) rfl (by decide)
    refine s_ref e_r_3 ?_
    refine s_gd (by rw [thN T_1 q_r_3 (k := 58) (n := 60) rfl (by decide)]; exact rg_inB (p_f_5 : Rg (0) (59) (x1)) (by decide)) ?_
    refine s_hq (th_wI T_1 q_r_3 (k := 58) (lo := (0)) (hi := (1)) rfl ((rg_narz _ : Rg (0) (1) ((vp_nar .boolean (0 : Int32)))) : Rg (0) (1) ((vp_nar .boolean (0 : Int32)))) (by decide) (by decide) (pm_a hA rfl)) (fun h_5 T_6 w_7 => ?_)
    obtain ⟨r_6, e_r_6, q_r_6⟩ := thR T_6 r_x0 (k := 12) (i := 11) (k2 := 5) rfl (by decide)
    refine s_ref e_r_6 ?_
    refine s_cV (zX4_forget hF (pmA_s hA rfl) T_6 q_r_6 p_f_5) (fun o_7 T_8 => ?_)
    exact s_some ⟨(T_8), (rg_m (rg_b rfl : Rg (1) (1) ((1 : Int32))) (by decide))⟩
set_option maxRecDepth 20000 in
theorem zX5_endOf {ρ : Nat → Nat} {c : Cm} {F : Nat} {w_x1 : Nat} (hF : 700000 ≤ F) (hA : pmA c [(47, 999), (6, 4), (6, 5), (6, 6), (6, 7), (6, 8), (6, 9)]) (hi_1503 : pmO c 1503 [(34, 999), (35, 999), (36, 999), (37, 999), (38, 999), (4, 5), (4, 6), (4, 7), (4, 8), (4, 9), (4, 10)]) {h : Hp} {x0 : Nat} {x1 : Nat} (o_x1 : cw c x1 = w_x1) (nw_x1_1503 : ¬ w_x1 = 1503) (T : TH ρ c h) (r_x0 : ρ x0 = 6) (r_x1 : ρ x1 = 4) (lw : (LwR ρ c h)) (rt : (RyP ρ c x1 h)) : Sat (sX5_endOf F h x0 x1) (ZI ρ c (0) (6)) := by
  unfold sX5_endOf sX5_endOf_45
  refine s_dI0 (zX5_earlyEnd hF T r_x0 r_x1) (fun o_1 eb_o_1 e_o_1 i_o_1 => ?_)
  have T_1 := th_eq e_o_1 T
  refine s_br (fun c_2 => ?_) (fun c_2 => ?_)
  · have _ := c_2
    have i_f_3 : Rg (0) (0) (o_1.1) := rg_eq c_2 (rg_b rfl : Rg (0) (0) (0 : Int32))
    obtain ⟨r_3, e_r_3, q_r_3⟩ := thR T_1 r_x0 (k := 6) (i := 2) (k2 := 47) rfl (by decide)
    refine s_ref e_r_3 ?_
    have pf_4 : LwR ρ c o_1.2 := (by rw [e_o_1]; exact lw)
    have pf_5 : RyP ρ c x1 o_1.2 := (by rw [e_o_1]; exact rt)
    refine s_cI (zX5_collect hF (pmA_s hA rfl) (pmO_s hi_1503 rfl) o_x1 (th_id T_1 r_x0 (k := 6) (i := 2) (w := 1502) e_r_3 rfl (by decide)) nw_x1_1503 T_1 r_x0 r_x1 q_r_3 (rg_m (rg_b rfl : Rg (1) (1) ((1 : Int32))) (by decide)) pf_4 pf_5) (fun o_4 T_6 i_o_4 => ?_)
    refine s_br (fun c_7 => ?_) (fun c_7 => ?_)
    · have _ := c_7
      have i_f_8 : Rg (0) (0) (o_4.1) := rg_le1 c_7 i_o_4 (rg_b rfl : Rg (0) (0) (0 : Int32))
      refine s_dI0 (zX5_isRoyalHit hF T_6 r_x0 r_x1 (thI T_6 r_x1 (k := 4) (i := 5) rfl : Rg (0) (1) ((hI o_4.2 x1 5)))) (fun o_6 eb_o_6 e_o_6 i_o_6 => ?_)
      have T_9 := th_eq e_o_6 T_6
      refine s_br (fun c_10 => ?_) (fun c_10 => ?_)
      · have _ := c_10
        have i_f_11 : Rg (0) (0) (o_6.1) := rg_eq c_10 (rg_b rfl : Rg (0) (0) (0 : Int32))
        exact s_some ⟨(T_9), (rg_m (rg_b rfl : Rg (6) (6) ((6 : Int32))) (by decide))⟩
      · have _ := c_10
        have i_f_12 : Rg (1) (1) (o_6.1) := rg_nlo c_10 i_o_6 (rg_b rfl : Rg (0) (0) (0 : Int32))
        exact s_some ⟨(T_9), (rg_m (rg_b rfl : Rg (5) (5) ((5 : Int32))) (by decide))⟩
    · have _ := c_7
      have i_f_13 : Rg (1) (4096) (o_4.1) := rg_lt2 (nle_lt c_7) (rg_b rfl : Rg (0) (0) (0 : Int32)) i_o_4
      exact s_some ⟨(T_6), (rg_m (rg_b rfl : Rg (0) (0) ((0 : Int32))) (by decide))⟩
  · have _ := c_2
    have i_f_14 : Rg (1) (4) (o_1.1) := rg_nlo c_2 i_o_1 (rg_b rfl : Rg (0) (0) (0 : Int32))
    exact s_some ⟨(T_1), (rg_m i_f_14 (by decide))⟩
set_option maxRecDepth 20000 in
theorem zX11_ended {ρ : Nat → Nat} {c : Cm} {F : Nat} (hF : 700000 ≤ F) (hA : pmA c [(47, 999), (6, 4), (6, 5), (6, 6), (6, 7), (6, 8), (6, 9)]) (hi_1503 : pmO c 1503 [(34, 999), (35, 999), (36, 999), (37, 999), (38, 999), (4, 5), (4, 6), (4, 7), (4, 8), (4, 9), (4, 10)]) {h : Hp} {x0 : Nat} {x1 : Int32} (T : TH ρ c h) (r_x0 : ρ x0 = 12) (i_x1 : Rg (-2147483648) (2147483647) (x1)) (lw : (LwR ρ c h)) (pl : (PlP ρ c x0 h)) : Sat (sX11_ended F h x0 x1) (ZI ρ c (-102) (6)) := by
  unfold sX11_ended sX11_ended_26
  refine s_dP0 (zX11_isPlace hF T r_x0 i_x1) (fun o_1 eb_o_1 e_o_1 i_o_1 p_o_1 => ?_)
  have T_1 := th_eq e_o_1 T
  refine s_br (fun c_2 => ?_) (fun c_2 => ?_)
  · have _ := c_2
    have i_f_3 : Rg (0) (0) (o_1.1) := rg_eq c_2 (rg_b rfl : Rg (0) (0) (0 : Int32))
    exact s_some ⟨(T_1), (rg_m (rg_b rfl : Rg (-102) (-102) ((- 102 : Int32))) (by decide))⟩
  · have _ := c_2
    have i_f_4 : Rg (1) (1) (o_1.1) := rg_nlo c_2 i_o_1 (rg_b rfl : Rg (0) (0) (0 : Int32))
    have p_f_5 := p_o_1 c_2
    obtain ⟨r_3, e_r_3, q_r_3⟩ := thR T_1 r_x0 (k := 12) (i := 6) (k2 := 6) rfl (by decide)
    refine s_ref e_r_3 ?_
    obtain ⟨r_4, e_r_4, q_r_4⟩ := thR T_1 r_x0 (k := 12) (i := 13) (k2 := 57) rfl (by decide)
    refine s_ref e_r_4 ?_
    refine s_gd (by rw [thN T_1 q_r_4 (k := 57) (n := 60) rfl (by decide)]; exact rg_inB (p_f_5 : Rg (0) (59) (x1)) (by decide)) ?_
    obtain ⟨r_6, e_r_6, q_r_6⟩ := thE T_1 q_r_4 (k := 57) (n := 60) (k2 := 4) (b := 59) (p_f_5 : Rg (0) (59) (x1)) (by decide) (by decide) (by decide)
    refine s_ref e_r_6 ?_
    have pf_6 : LwR ρ c o_1.2 := (by rw [e_o_1]; exact lw)
    have pf_7 : HasR ρ c x0 x1 o_1.2 := (by rw [e_o_1]; exact (hr_of T r_x0 pl eb_o_1 c_2))
    refine s_cI (zX5_endOf hF (pmA_s hA rfl) (pmO_s hi_1503 rfl) (th_id T_1 q_r_4 (k := 57) (w := 3200) e_r_6 rfl (by decide)) (by decide) T_1 q_r_3 q_r_6 pf_6 (pf_7.2 _ e_r_4 _ e_r_6)) (fun o_7 T_8 i_o_7 => ?_)
    exact s_some ⟨(T_8), (rg_m i_o_7 (by decide))⟩
set_option maxRecDepth 20000 in
theorem zX9_appendNumber {ρ : Nat → Nat} {c : Cm} {F : Nat} {w_x0 : Nat} (hF : 700000 ≤ F) (hO_x0 : pmO c w_x0 [(49, 999), (10, 1)]) {h : Hp} {x0 : Nat} {x1 : Int32} (o_x0 : cw c x0 = w_x0) (T : TH ρ c h) (r_x0 : ρ x0 = 10) (i_x1 : Rg (-2147483648) (2147483647) (x1)) : Sat (sX9_appendNumber h x0 x1) (ZV ρ c) := by
  unfold sX9_appendNumber 
  refine s_cV (zX9_append hF (pmO_e o_x0 hO_x0 rfl) T r_x0 (rg_top _ : Rg (-2147483648) (2147483647) (((x1.toUInt32 >>> ((24 : Int32).toUInt32 &&& Int32.toUInt32 31)).toInt32)))) (fun o_1 T_1 => ?_)
  refine s_cV (zX9_append hF (pmO_e o_x0 hO_x0 rfl) T_1 r_x0 (rg_top _ : Rg (-2147483648) (2147483647) (((x1.toUInt32 >>> ((16 : Int32).toUInt32 &&& Int32.toUInt32 31)).toInt32)))) (fun o_2 T_2 => ?_)
  refine s_cV (zX9_append hF (pmO_e o_x0 hO_x0 rfl) T_2 r_x0 (rg_top _ : Rg (-2147483648) (2147483647) (((x1.toUInt32 >>> ((8 : Int32).toUInt32 &&& Int32.toUInt32 31)).toInt32)))) (fun o_3 T_3 => ?_)
  refine s_cV (zX9_append hF (pmO_e o_x0 hO_x0 rfl) T_3 r_x0 i_x1) (fun o_4 T_4 => ?_)
  exact s_some (T_4)
set_option maxRecDepth 20000 in
theorem zX11_feed {ρ : Nat → Nat} {c : Cm} {F : Nat} (hF : 700000 ≤ F) (hi_2100 : pmO c 2100 [(49, 999), (10, 1)]) {h : Hp} {x0 : Nat} {x1 : Int32} {x2 : Int32} {x3 : Int32} {x4 : Int32} {x5 : Int32} (T : TH ρ c h) (r_x0 : ρ x0 = 12) (i_x1 : Rg (-2147483648) (2147483647) (x1)) (i_x2 : Rg (-2147483648) (2147483647) (x2)) (i_x3 : Rg (-2147483648) (2147483647) (x3)) (i_x4 : Rg (-2147483648) (2147483647) (x4)) (i_x5 : Rg (-2147483648) (2147483647) (x5)) : Sat (sX11_feed h x0 x1 x2 x3 x4 x5) (ZI ρ c (-104) (1200)) := by
  unfold sX11_feed 
  obtain ⟨r_1, e_r_1, q_r_1⟩ := thR T r_x0 (k := 12) (i := 0) (k2 := 10) rfl (by decide)
  refine s_ref e_r_1 ?_
  refine s_br (fun c_1 => ?_) (fun c_1 => ?_)
  · have _ := c_1
    have i_f_2 : Rg (20) (1200) (((hI h r_1 1) + (20 : Int32))) := rg_le1 c_1 (rg_add (thI T q_r_1 (k := 10) (i := 1) rfl : Rg (0) (1200) ((hI h r_1 1))) (rg_b rfl : Rg (20) (20) ((20 : Int32))) (by decide) : Rg (20) (1220) (((hI h r_1 1) + (20 : Int32)))) (rg_b rfl : Rg (1200) (1200) ((1200 : Int32)))
    have i_f_3 : Rg (0) (1180) ((hI h r_1 1)) := rg_bka (i_f_2 : Rg (20) (1200) (((hI h r_1 1) + (20 : Int32)))) (thI T q_r_1 (k := 10) (i := 1) rfl : Rg (0) (1200) ((hI h r_1 1))) (rg_b rfl : Rg (20) (20) ((20 : Int32))) (by decide)
    refine s_ref e_r_1 ?_
    refine s_cV (zX9_appendNumber hF (pmO_s hi_2100 rfl) (th_id T r_x0 (k := 12) (i := 0) (w := 2100) e_r_1 rfl (by decide)) T q_r_1 i_x1) (fun o_4 T_4 => ?_)
    obtain ⟨r_5, e_r_5, q_r_5⟩ := thR T_4 r_x0 (k := 12) (i := 0) (k2 := 10) rfl (by decide)
    refine s_ref e_r_5 ?_
    refine s_cV (zX9_appendNumber hF (pmO_s hi_2100 rfl) (th_id T_4 r_x0 (k := 12) (i := 0) (w := 2100) e_r_5 rfl (by decide)) T_4 q_r_5 i_x2) (fun o_6 T_5 => ?_)
    obtain ⟨r_7, e_r_7, q_r_7⟩ := thR T_5 r_x0 (k := 12) (i := 0) (k2 := 10) rfl (by decide)
    refine s_ref e_r_7 ?_
    refine s_cV (zX9_appendNumber hF (pmO_s hi_2100 rfl) (th_id T_5 r_x0 (k := 12) (i := 0) (w := 2100) e_r_7 rfl (by decide)) T_5 q_r_7 i_x3) (fun o_8 T_6 => ?_)
    obtain ⟨r_9, e_r_9, q_r_9⟩ := thR T_6 r_x0 (k := 12) (i := 0) (k2 := 10) rfl (by decide)
    refine s_ref e_r_9 ?_
    refine s_cV (zX9_appendNumber hF (pmO_s hi_2100 rfl) (th_id T_6 r_x0 (k := 12) (i := 0) (w := 2100) e_r_9 rfl (by decide)) T_6 q_r_9 i_x4) (fun o_10 T_7 => ?_)
    obtain ⟨r_11, e_r_11, q_r_11⟩ := thR T_7 r_x0 (k := 12) (i := 0) (k2 := 10) rfl (by decide)
    refine s_ref e_r_11 ?_
    refine s_cV (zX9_appendNumber hF (pmO_s hi_2100 rfl) (th_id T_7 r_x0 (k := 12) (i := 0) (w := 2100) e_r_11 rfl (by decide)) T_7 q_r_11 i_x5) (fun o_12 T_8 => ?_)
    obtain ⟨r_13, e_r_13, q_r_13⟩ := thR T_8 r_x0 (k := 12) (i := 0) (k2 := 10) rfl (by decide)
    refine s_ref e_r_13 ?_
    exact s_some ⟨(T_8), (rg_m (thI T_8 q_r_13 (k := 10) (i := 1) rfl : Rg (0) (1200) (hI o_12 r_13 1)) (by decide))⟩
  · have _ := c_1
    have i_f_9 : Rg (1201) (1220) (((hI h r_1 1) + (20 : Int32))) := rg_lt2 (nle_lt c_1) (rg_b rfl : Rg (1200) (1200) ((1200 : Int32))) (rg_add (thI T q_r_1 (k := 10) (i := 1) rfl : Rg (0) (1200) ((hI h r_1 1))) (rg_b rfl : Rg (20) (20) ((20 : Int32))) (by decide) : Rg (20) (1220) (((hI h r_1 1) + (20 : Int32))))
    have i_f_10 : Rg (1181) (1200) ((hI h r_1 1)) := rg_bka (i_f_9 : Rg (1201) (1220) (((hI h r_1 1) + (20 : Int32)))) (thI T q_r_1 (k := 10) (i := 1) rfl : Rg (0) (1200) ((hI h r_1 1))) (rg_b rfl : Rg (20) (20) ((20 : Int32))) (by decide)
    exact s_some ⟨(T), (rg_m (rg_b rfl : Rg (-104) (-104) ((- 104 : Int32))) (by decide))⟩
set_option maxRecDepth 20000 in
theorem zX3_handSize_4 {ρ : Nat → Nat} {c : Cm} {h0 : Hp} {F : Nat} (hF : 700000 ≤ F) : ∀ (f : Nat) {h : Hp} {x0 : Nat} {x1 : Int32} {x2 : Int32} {x3 : Int32}, h = h0 → TH ρ c h → ρ x0 = 4 → Rg (0) (1) (x1) → Rg (-2147483648) (2147483647) (x2) → Rg (0) (12) (x3) → (12 - x3.toInt).toNat < f → Sat (sX3_handSize_4 F f h x0 x1 x2 x3) (ZI0 h0 (-2147483648) (2147483647)) := by
  intro f
  induction f with
  | zero => intros; omega
  | succ f ih =>
    intro h x0 x1 x2 x3 E T r_x0 i_x1 i_x2 i_x3 hm
    rw [sX3_handSize_4]
    obtain ⟨C_4, hC_4⟩ : ∃ C : Int, C = x3.toInt := ⟨_, rfl⟩
    have hk_4 : ∀ {h : Hp} {x0 : Nat} {x1 : Int32} {x2 : Int32} {x3 : Int32}, h = h0 → TH ρ c h → ρ x0 = 4 → Rg (0) (1) (x1) → Rg (-2147483648) (2147483647) (x2) → Rg (0) (12) (x3) → C_4 < x3.toInt → Sat (sX3_handSize_4 F f h x0 x1 x2 x3) (ZI0 h0 (-2147483648) (2147483647)) := by
      intro h' x0' x1' x2' x3' E' T' r_x0' i_x1' i_x2' i_x3' hl
      exact ih E' T' r_x0' i_x1' i_x2' i_x3' (by have := i_x3'.1; have := i_x3'.2; omega)
    have hc_4 : C_4 ≤ x3.toInt := by omega
    refine s_br (fun c_1 => ?_) (fun c_1 => ?_)
    · have _ := c_1
      have i_f_2 : Rg (12) (12) (x3) := rg_le2 c_1 (rg_b rfl : Rg (12) (12) ((12 : Int32))) i_x3
      exact s_some ⟨E, i_x2⟩
    · have _ := c_1
      have i_f_3 : Rg (0) (11) (x3) := rg_lt1 (nle_lt c_1) i_x3 (rg_b rfl : Rg (12) (12) ((12 : Int32)))
      refine s_dI0 (zX3_inHand hF T r_x0 i_x1 (rg_m i_f_3 (by decide))) (fun o_2 eb_o_2 e_o_2 i_o_2 => ?_)
      have T_4 := th_eq e_o_2 T
      refine s_q (fun v_3 e_5 => ?_)
      have i_v_3 : Rg (-2147483648) (2147483647) (v_3) := by rw [e_5]; exact (rg_top _ : Rg (-2147483648) (2147483647) (x2 + o_2.1))
      refine s_q (fun v_4 e_6 => ?_)
      have i_v_4 : Rg (1) (12) (v_4) := by rw [e_6]; exact (rg_add i_f_3 (rg_b rfl : Rg (1) (1) ((1 : Int32))) (by decide) : Rg (1) (12) (x3 + (1 : Int32)))
      have m_7 : (v_4).toInt = x3.toInt + 1 := by rw [e_6]; exact rg_inc i_f_3 (by decide)
      exact hk_4 (e_o_2.trans E) T_4 r_x0 i_x1 i_v_3 (rg_m i_v_4 (by decide)) (by have := hc_4; omega)
set_option maxRecDepth 20000 in
theorem zX3_handSize {ρ : Nat → Nat} {c : Cm} {F : Nat} (hF : 700000 ≤ F) {h : Hp} {x0 : Nat} {x1 : Int32} (T : TH ρ c h) (r_x0 : ρ x0 = 4) (i_x1 : Rg (0) (1) (x1)) : Sat (sX3_handSize F h x0 x1) (ZI0 h (-2147483648) (2147483647)) := by
  unfold sX3_handSize 
  have m_1 : Rg (0) (12) ((0 : Int32)) := (rg_m (rg_b rfl : Rg (0) (0) ((0 : Int32))) (by decide))
  exact zX3_handSize_4 hF F rfl T r_x0 i_x1 (rg_m (rg_b rfl : Rg (0) (0) ((0 : Int32))) (by decide)) (rg_m (rg_b rfl : Rg (0) (0) ((0 : Int32))) (by decide)) (by have := m_1.1; have := m_1.2; omega)
set_option maxRecDepth 20000 in
theorem zX11_figure {ρ : Nat → Nat} {c : Cm} {F : Nat} (hF : 700000 ≤ F) {h : Hp} {x0 : Nat} {x1 : Int32} {x2 : Int32} (T : TH ρ c h) (r_x0 : ρ x0 = 12) (i_x1 : Rg (-2147483648) (2147483647) (x1)) (i_x2 : Rg (-2147483648) (2147483647) (x2)) : Sat (sX11_figure F h x0 x1 x2) (ZI0 h (-2147483648) (2147483647)) := by
  unfold sX11_figure sX11_figure_10 sX11_figure_130
  refine s_br (fun c_1 => ?_) (fun c_1 => ?_)
  · have _ := c_1
    have i_f_2 : Rg (-2147483648) (-1) (x2) := rg_lt1 c_1 i_x2 (rg_b rfl : Rg (0) (0) (0 : Int32))
    exact s_some ⟨rfl, (rg_m (rg_b rfl : Rg (-101) (-101) ((- 101 : Int32))) (by decide))⟩
  · have _ := c_1
    have i_f_3 : Rg (0) (2147483647) (x2) := rg_le2 (nlt_le c_1) (rg_b rfl : Rg (0) (0) (0 : Int32)) i_x2
    refine s_br (fun c_4 => ?_) (fun c_4 => ?_)
    · have _ := c_4
      have i_f_5 : Rg (0) (8) (x2) := rg_le1 c_4 i_f_3 (rg_b rfl : Rg (8) (8) ((8 : Int32)))
      refine s_dP0 (zX11_isPlace hF T r_x0 i_x1) (fun o_3 eb_o_3 e_o_3 i_o_3 p_o_3 => ?_)
      have T_6 := th_eq e_o_3 T
      refine s_br (fun c_7 => ?_) (fun c_7 => ?_)
      · have _ := c_7
        have i_f_8 : Rg (0) (0) (o_3.1) := rg_eq c_7 (rg_b rfl : Rg (0) (0) (0 : Int32))
        exact s_some ⟨(e_o_3.trans rfl), (rg_m (rg_b rfl : Rg (-102) (-102) ((- 102 : Int32))) (by decide))⟩
      · have _ := c_7
        have i_f_9 : Rg (1) (1) (o_3.1) := rg_nlo c_7 i_o_3 (rg_b rfl : Rg (0) (0) (0 : Int32))
        have p_f_10 := p_o_3 c_7
        obtain ⟨r_5, e_r_5, q_r_5⟩ := thR T_6 r_x0 (k := 12) (i := 13) (k2 := 57) rfl (by decide)
        refine s_ref e_r_5 ?_
        refine s_gd (by rw [thN T_6 q_r_5 (k := 57) (n := 60) rfl (by decide)]; exact rg_inB (p_f_10 : Rg (0) (59) (x1)) (by decide)) ?_
        obtain ⟨r_7, e_r_7, q_r_7⟩ := thE T_6 q_r_5 (k := 57) (n := 60) (k2 := 4) (b := 59) (p_f_10 : Rg (0) (59) (x1)) (by decide) (by decide) (by decide)
        refine s_ref e_r_7 ?_
        refine s_br (fun c_11 => ?_) (fun c_11 => ?_)
        · have _ := c_11
          have i_f_12 : Rg (0) (0) (x2) := rg_eq c_11 (rg_b rfl : Rg (0) (0) ((0 : Int32)))
          exact s_some ⟨(e_o_3.trans rfl), (rg_m (thI T_6 q_r_7 (k := 4) (i := 5) rfl : Rg (0) (1) (hI o_3.2 r_7 5)) (by decide))⟩
        · have _ := c_11
          have i_f_13 : Rg (1) (8) (x2) := rg_nlo c_11 i_f_5 (rg_b rfl : Rg (0) (0) ((0 : Int32)))
          refine s_br (fun c_14 => ?_) (fun c_14 => ?_)
          · have _ := c_14
            have i_f_15 : Rg (1) (1) (x2) := rg_eq c_14 (rg_b rfl : Rg (1) (1) ((1 : Int32)))
            exact s_some ⟨(e_o_3.trans rfl), (rg_m (thI T_6 q_r_7 (k := 4) (i := 6) rfl : Rg (0) (999) (hI o_3.2 r_7 6)) (by decide))⟩
          · have _ := c_14
            have i_f_16 : Rg (2) (8) (x2) := rg_nlo c_14 i_f_13 (rg_b rfl : Rg (1) (1) ((1 : Int32)))
            refine s_br (fun c_17 => ?_) (fun c_17 => ?_)
            · have _ := c_17
              have i_f_18 : Rg (2) (2) (x2) := rg_eq c_17 (rg_b rfl : Rg (2) (2) ((2 : Int32)))
              obtain ⟨r_10, e_r_10, q_r_10⟩ := thR T_6 q_r_7 (k := 4) (i := 4) (k2 := 38) rfl (by decide)
              refine s_ref e_r_10 ?_
              refine s_gd (by rw [thN T_6 q_r_10 (k := 38) (n := 2) rfl (by decide)]; exact rg_inB ((rg_m (rg_b rfl : Rg (0) (0) ((0 : Int32))) (by decide)) : Rg (0) (1) ((0 : Int32))) (by decide)) ?_
              exact s_some ⟨(e_o_3.trans rfl), (rg_m (thI T_6 q_r_10 (k := 38) rfl : Rg (0) (9) (hI o_3.2 r_10 (0 : Int32).toNatClampNeg)) (by decide))⟩
            · have _ := c_17
              have i_f_19 : Rg (3) (8) (x2) := rg_nlo c_17 i_f_16 (rg_b rfl : Rg (2) (2) ((2 : Int32)))
              refine s_br (fun c_20 => ?_) (fun c_20 => ?_)
              · have _ := c_20
                have i_f_21 : Rg (3) (3) (x2) := rg_eq c_20 (rg_b rfl : Rg (3) (3) ((3 : Int32)))
                obtain ⟨r_13, e_r_13, q_r_13⟩ := thR T_6 q_r_7 (k := 4) (i := 4) (k2 := 38) rfl (by decide)
                refine s_ref e_r_13 ?_
                refine s_gd (by rw [thN T_6 q_r_13 (k := 38) (n := 2) rfl (by decide)]; exact rg_inB ((rg_m (rg_b rfl : Rg (1) (1) ((1 : Int32))) (by decide)) : Rg (0) (1) ((1 : Int32))) (by decide)) ?_
                exact s_some ⟨(e_o_3.trans rfl), (rg_m (thI T_6 q_r_13 (k := 38) rfl : Rg (0) (9) (hI o_3.2 r_13 (1 : Int32).toNatClampNeg)) (by decide))⟩
              · have _ := c_20
                have i_f_22 : Rg (4) (8) (x2) := rg_nlo c_20 i_f_19 (rg_b rfl : Rg (3) (3) ((3 : Int32)))
                refine s_br (fun c_23 => ?_) (fun c_23 => ?_)
                · have _ := c_23
                  have i_f_24 : Rg (4) (4) (x2) := rg_eq c_23 (rg_b rfl : Rg (4) (4) ((4 : Int32)))
                  refine s_dI0 (zJ13_bitCount_95d88 hF T_6) (fun o_16 eb_o_16 e_o_16 i_o_16 => ?_)
                  have T_25 := th_eq e_o_16 T_6
                  exact s_some ⟨(e_o_16.trans (e_o_3.trans rfl)), (rg_m i_o_16 (by decide))⟩
                · have _ := c_23
                  have i_f_26 : Rg (5) (8) (x2) := rg_nlo c_23 i_f_22 (rg_b rfl : Rg (4) (4) ((4 : Int32)))
                  refine s_br (fun c_27 => ?_) (fun c_27 => ?_)
                  · have _ := c_27
                    have i_f_28 : Rg (5) (5) (x2) := rg_eq c_27 (rg_b rfl : Rg (5) (5) ((5 : Int32)))
                    refine s_br (fun c_29 => ?_) (fun c_29 => ?_)
                    · have _ := c_29
                      exact s_some ⟨(e_o_3.trans rfl), (rg_m (rg_b rfl : Rg (-1) (-1) ((- 1 : Int32))) (by decide))⟩
                    · have _ := c_29
                      refine s_dI0 (zX3_passSquare hF T_6 q_r_7 (rg_m (rg_b rfl : Rg (0) (0) ((0 : Int32))) (by decide))) (fun o_19 eb_o_19 e_o_19 i_o_19 => ?_)
                      have T_30 := th_eq e_o_19 T_6
                      exact s_some ⟨(e_o_19.trans (e_o_3.trans rfl)), (rg_m i_o_19 (by decide))⟩
                  · have _ := c_27
                    have i_f_31 : Rg (6) (8) (x2) := rg_nlo c_27 i_f_26 (rg_b rfl : Rg (5) (5) ((5 : Int32)))
                    refine s_br (fun c_32 => ?_) (fun c_32 => ?_)
                    · have _ := c_32
                      have i_f_33 : Rg (6) (6) (x2) := rg_eq c_32 (rg_b rfl : Rg (6) (6) ((6 : Int32)))
                      refine s_dI0 (zX3_handSize hF T_6 q_r_7 (rg_m (rg_b rfl : Rg (0) (0) ((0 : Int32))) (by decide))) (fun o_21 eb_o_21 e_o_21 i_o_21 => ?_)
                      have T_34 := th_eq e_o_21 T_6
                      exact s_some ⟨(e_o_21.trans (e_o_3.trans rfl)), i_o_21⟩
                    · have _ := c_32
                      have i_f_35 : Rg (7) (8) (x2) := rg_nlo c_32 i_f_31 (rg_b rfl : Rg (6) (6) ((6 : Int32)))
                      refine s_br (fun c_36 => ?_) (fun c_36 => ?_)
                      · have _ := c_36
                        have i_f_37 : Rg (7) (7) (x2) := rg_eq c_36 (rg_b rfl : Rg (7) (7) ((7 : Int32)))
                        refine s_dI0 (zX3_handSize hF T_6 q_r_7 (rg_m (rg_b rfl : Rg (1) (1) ((1 : Int32))) (by decide))) (fun o_23 eb_o_23 e_o_23 i_o_23 => ?_)
                        have T_38 := th_eq e_o_23 T_6
                        exact s_some ⟨(e_o_23.trans (e_o_3.trans rfl)), i_o_23⟩
                      · have _ := c_36
                        have i_f_39 : Rg (8) (8) (x2) := rg_nlo c_36 i_f_35 (rg_b rfl : Rg (7) (7) ((7 : Int32)))
                        refine s_dJ0 (zX3_occupied hF T_6 q_r_7) (fun o_25 eb_o_25 e_o_25 => ?_)
                        have T_40 := th_eq e_o_25 T_6
                        refine s_dI0 (zJ13_bitCount_95d88 hF T_40) (fun o_26 eb_o_26 e_o_26 i_o_26 => ?_)
                        have T_41 := th_eq e_o_26 T_40
                        exact s_some ⟨(e_o_26.trans (e_o_25.trans (e_o_3.trans rfl))), (rg_m i_o_26 (by decide))⟩
    · have _ := c_4
      have i_f_42 : Rg (9) (2147483647) (x2) := rg_lt2 (nle_lt c_4) (rg_b rfl : Rg (8) (8) ((8 : Int32))) i_f_3
      exact s_some ⟨rfl, (rg_m (rg_b rfl : Rg (-101) (-101) ((- 101 : Int32))) (by decide))⟩
set_option maxRecDepth 20000 in
theorem zX11_forgetAll_10 {ρ : Nat → Nat} {c : Cm} {F : Nat} (hF : 700000 ≤ F) (hA : pmA c [(58, 999), (1, 10), (5, 14), (5, 15), (5, 16), (7, 6)]) : ∀ (f : Nat) {h : Hp} {x0 : Nat} {x1 : Int32}, TH ρ c h → ρ x0 = 12 → Rg (0) (60) (x1) → (60 - x1.toInt).toNat < f → Sat (sX11_forgetAll_10 F f h x0 x1) (ZV ρ c) := by
  intro f
  induction f with
  | zero => intros; omega
  | succ f ih =>
    intro h x0 x1 T r_x0 i_x1 hm
    rw [sX11_forgetAll_10]
    obtain ⟨C_10, hC_10⟩ : ∃ C : Int, C = x1.toInt := ⟨_, rfl⟩
    have hk_10 : ∀ {h : Hp} {x0 : Nat} {x1 : Int32}, TH ρ c h → ρ x0 = 12 → Rg (0) (60) (x1) → C_10 < x1.toInt → Sat (sX11_forgetAll_10 F f h x0 x1) (ZV ρ c) := by
      intro h' x0' x1' T' r_x0' i_x1' hl
      exact ih T' r_x0' i_x1' (by have := i_x1'.1; have := i_x1'.2; omega)
    have hc_10 : C_10 ≤ x1.toInt := by omega
    refine s_br (fun c_1 => ?_) (fun c_1 => ?_)
    · have _ := c_1
      have i_f_2 : Rg (60) (60) (x1) := rg_le2 c_1 (rg_b rfl : Rg (60) (60) ((60 : Int32))) i_x1
      obtain ⟨r_2, e_r_2, q_r_2⟩ := thR T r_x0 (k := 12) (i := 9) (k2 := 7) rfl (by decide)
      refine s_ref e_r_2 ?_
      refine s_hq (th_wI T q_r_2 (k := 7) (lo := (0)) (hi := (3000)) rfl ((rg_m (rg_b rfl : Rg (0) (0) ((0 : Int32))) (by decide)) : Rg (0) (3000) ((0 : Int32))) (by decide) (by decide) (pm_a hA rfl)) (fun h_3 T_3 w_4 => ?_)
      obtain ⟨r_4, e_r_4, q_r_4⟩ := thR T_3 r_x0 (k := 12) (i := 10) (k2 := 1) rfl (by decide)
      refine s_ref e_r_4 ?_
      refine s_hq (th_wI T_3 q_r_4 (k := 1) (lo := (0)) (hi := (1)) rfl ((rg_m (rg_b rfl : Rg (0) (0) ((0 : Int32))) (by decide)) : Rg (0) (1) ((0 : Int32))) (by decide) (by decide) (pm_a hA rfl)) (fun h_5 T_5 w_6 => ?_)
      exact s_some (T_5)
    · have _ := c_1
      have i_f_7 : Rg (0) (59) (x1) := rg_lt1 (nle_lt c_1) i_x1 (rg_b rfl : Rg (60) (60) ((60 : Int32)))
      obtain ⟨r_6, e_r_6, q_r_6⟩ := thR T r_x0 (k := 12) (i := 14) (k2 := 58) rfl (by decide)
      refine s_ref e_r_6 ?_
      refine s_gd (by rw [thN T q_r_6 (k := 58) (n := 60) rfl (by decide)]; exact rg_inB (i_f_7 : Rg (0) (59) (x1)) (by decide)) ?_
      refine s_hq (th_wI T q_r_6 (k := 58) (lo := (0)) (hi := (1)) rfl ((rg_narz _ : Rg (0) (1) ((vp_nar .boolean (0 : Int32)))) : Rg (0) (1) ((vp_nar .boolean (0 : Int32)))) (by decide) (by decide) (pm_a hA rfl)) (fun h_8 T_8 w_9 => ?_)
      obtain ⟨r_9, e_r_9, q_r_9⟩ := thR T_8 r_x0 (k := 12) (i := 11) (k2 := 5) rfl (by decide)
      refine s_ref e_r_9 ?_
      refine s_cV (zX4_forget hF (pmA_s hA rfl) T_8 q_r_9 i_f_7) (fun o_10 T_10 => ?_)
      refine s_q (fun v_11 e_11 => ?_)
      have i_v_11 : Rg (1) (60) (v_11) := by rw [e_11]; exact (rg_add i_f_7 (rg_b rfl : Rg (1) (1) ((1 : Int32))) (by decide) : Rg (1) (60) (x1 + (1 : Int32)))
      have m_12 : (v_11).toInt = x1.toInt + 1 := by rw [e_11]; exact rg_inc i_f_7 (by decide)
      exact hk_10 T_10 r_x0 (rg_m i_v_11 (by decide)) (by have := hc_10; omega)
set_option maxRecDepth 20000 in
theorem zX11_forgetAll {ρ : Nat → Nat} {c : Cm} {F : Nat} (hF : 700000 ≤ F) (hA : pmA c [(58, 999), (61, 999), (1, 10), (5, 14), (5, 15), (5, 16), (7, 6)]) {h : Hp} {x0 : Nat} (T : TH ρ c h) (r_x0 : ρ x0 = 12) : Sat (sX11_forgetAll F h x0) (ZV ρ c) := by
  unfold sX11_forgetAll 
  obtain ⟨r_1, e_r_1, q_r_1⟩ := thR T r_x0 (k := 12) (i := 17) (k2 := 61) rfl (by decide)
  refine s_ref e_r_1 ?_
  refine s_cV (zJ7_fill_53178 hF T q_r_1 (k := 61) (n := 8) (lo := (-1)) (hi := (300)) (rg_m (rg_b rfl : Rg (-1) (-1) ((- 1 : Int32))) (by decide)) (fun _ => rfl) rfl (by decide) (by decide) (by decide) (by decide) (fun _ => (pm_a hA rfl))) (fun o_2 T_1 => ?_)
  have m_2 : Rg (0) (60) ((0 : Int32)) := (rg_m (rg_b rfl : Rg (0) (0) ((0 : Int32))) (by decide))
  exact zX11_forgetAll_10 hF (pmA_s hA rfl) F T_1 r_x0 (rg_m (rg_b rfl : Rg (0) (0) ((0 : Int32))) (by decide)) (by have := m_2.1; have := m_2.2; omega)
theorem zX11_settle {ρ : Nat → Nat} {c : Cm} {F : Nat} {w_x2 : Nat} (hF : 700000 ≤ F) (hA : pmA c [(58, 999)]) (hi_3200 : pmO c 3200 [(34, 999), (35, 999), (36, 999), (37, 999), (38, 999), (4, 5), (4, 6), (4, 8), (4, 9), (4, 10)]) {h : Hp} {x0 : Nat} {x1 : Int32} {x2 : Nat} (o_x2 : cw c x2 = w_x2) (T : TH ρ c h) (r_x0 : ρ x0 = 12) (i_x1 : Rg (0) (59) (x1)) (r_x2 : ρ x2 = 4) (pl : (PlP ρ c x0 h)) (rt : (RyP ρ c x2 h)) : Sat (sX11_settle F h x0 x1 x2) (ZQ (ZV ρ c) (fun o => (PlP ρ c x0 o) ∧ (HasR ρ c x0 x1 o))) := by
  unfold sX11_settle
  obtain ⟨u, eu, ru⟩ := thR T r_x0 (i := 14) (k2 := 58) rfl (by decide)
  refine s_ref eu ?_
  refine s_gd (by rw [thN T ru (k := 58) (n := 60) rfl (by decide)]; exact rg_inB i_x1 (by decide)) ?_
  refine s_hq (th_wI T ru (k := 58) (lo := 0) (hi := 1) rfl (rg_narz _) (by decide) (by decide) (pm_a hA rfl)) (fun h3 T3 e3 => ?_)
  obtain ⟨r, er, rr'⟩ := thR T3 r_x0 (i := 13) (k2 := 57) rfl (by decide)
  refine s_ref er ?_
  refine s_gd (by rw [thN T3 rr' (k := 57) (n := 60) rfl (by decide)]; exact rg_inB i_x1 (by decide)) ?_
  have l60 : x1.toNatClampNeg < 60 := by have := rg_clamp (n := 59) i_x1 (by decide); omega
  obtain ⟨q, eq, rq⟩ : ∃ q, hR h3 r x1.toNatClampNeg = some q ∧ ρ q = 4 := by
    obtain ⟨q, a, b⟩ := T3.1.2.2.1 r x1.toNatClampNeg (by rw [rr']; exact pl_k _ l60)
    exact ⟨q, a, pl_b T3 rr' l60 a⟩
  refine s_ref eq ?_
  have ne : ∀ {a k : Nat}, ρ a = k → k ≠ 58 → ∀ i, hI h3 a i = hI h a i := fun ha hk i => by rw [e3, r_I, if_neg (fun y => hk (by rw [← ha, y.1, ru]))]
  have ry : ∀ {b : Nat}, ρ b = 4 → RyP ρ c b h → RyP ρ c b h3 := fun {b} rb P ra era i hi n L rL wL => by
    rw [e3] at era
    have era' : hR h b 2 = some ra := era
    have rra : ρ ra = 36 := rr T (thR T rb (i := 2) (k2 := 36) rfl (by decide)) era'
    rw [ne rra (by decide)] at n
    rw [ne rL (by decide)]
    exact P ra era' i hi n L rL wL
  have wq : cw c q = 3200 := kid_w T3 rr' (i := x1.toNatClampNeg) rfl (by decide) eq
  refine s_cVfq (S := fS [] [(3200, [(34, 999), (35, 999), (36, 999), (37, 999), (38, 999), (4, 5), (4, 6), (4, 8), (4, 9), (4, 10)])]) T3 (fs_sub pmA_n (fs_c hi_3200 fs_n)) (s_weq (zX3_copyFrom (c := cat c (fS [] [(3200, [(34, 999), (35, 999), (36, 999), (37, 999), (38, 999), (4, 5), (4, 6), (4, 8), (4, 9), (4, 10)])]) h3) hF (by rw [show cw (cat c (fS [] [(3200, [(34, 999), (35, 999), (36, 999), (37, 999), (38, 999), (4, 5), (4, 6), (4, 8), (4, 9), (4, 10)])]) h3) q = 3200 from wq]; exact fs_o (.head _)) (th_in _ T3) rq r_x2)) (fun o7 T7 f7 e7 => ?_)
  have A : RyP ρ c q o7 := ry_copy T3 rq r_x2 e7 (ry r_x2 rt)
  obtain ⟨a0, f0, ra0⟩ := thR T3 rq (i := 2) (k2 := 36) rfl (by decide)
  obtain ⟨a1, f1, ra1⟩ := thR T3 r_x2 (i := 2) (k2 := 36) rfl (by decide)
  have p1 := (cf_all T3 rq r_x2 f0 f1 e7).1
  refine s_some ⟨T7, fun r' u' er' eu' i hi n b eb => ?_, l60, fun r' er' b eb => ?_⟩
  · rw [p1, er] at er'
    rw [p1, e3] at eu'
    replace eu' : hR h x0 14 = some u' := eu'
    rw [eu] at eu'
    have z1 := Option.some.inj er'
    have z2 := Option.some.inj eu'
    subst z1
    subst z2
    rw [p1] at eb
    have rb := pl_b T3 rr' hi eb
    by_cases w : b = q
    · rw [w]; exact A
    · refine ry_copyo T3 rq r_x2 rb w e7 (ry rb ?_)
      by_cases v : i = x1.toNatClampNeg
      · rw [v, eq] at eb
        exact absurd (Option.some.inj eb).symm w
      · have n' : ¬ hI h u i = 0 := fun z => n (by
          rw [(fr_RI f7 ru (by decide) (fun _ => rfl)).1, e3, r_I, if_neg (fun y => v y.2)]
          exact z)
        rw [e3] at er eb
        exact pl r u er eu i hi n' b eb
  · rw [p1, er] at er'
    have z1 := Option.some.inj er'
    subst z1
    rw [p1, eq] at eb
    rw [← Option.some.inj eb]
    exact A

set_option maxRecDepth 20000 in
theorem zX11_go {ρ : Nat → Nat} {c : Cm} {F : Nat} (hF : 700000 ≤ F) (hA : pmA c [(47, 999), (58, 999), (6, 4), (6, 5), (6, 6), (6, 7), (6, 8), (6, 9)]) (hi_1503 : pmO c 1503 [(34, 999), (35, 999), (36, 999), (37, 999), (38, 999), (4, 5), (4, 6), (4, 7), (4, 8), (4, 9), (4, 10)]) (hi_3200 : pmO c 3200 [(34, 999), (35, 999), (36, 999), (37, 999), (38, 999), (4, 5), (4, 6), (4, 7), (4, 8), (4, 9), (4, 10)]) {h : Hp} {x0 : Nat} {x1 : Int32} {x2 : Int32} (T : TH ρ c h) (r_x0 : ρ x0 = 12) (i_x1 : Rg (-2147483648) (2147483647) (x1)) (i_x2 : Rg (-2147483648) (2147483647) (x2)) (lw : (LwR ρ c h)) (pl : (PlP ρ c x0 h)) : Sat (sX11_go F h x0 x1 x2) (ZQ (ZI ρ c (-104) (59)) (fun o => PlP ρ c x0 o.2)) := by
  unfold sX11_go sX11_go_13
  refine s_br (fun c_1 => ?_) (fun c_1 => ?_)
  · have _ := c_1
    have i_f_2 : Rg (-2147483648) (-1) (x2) := rg_lt1 c_1 i_x2 (rg_b rfl : Rg (0) (0) (0 : Int32))
    exact s_some ⟨⟨(T), (rg_m (rg_b rfl : Rg (-102) (-102) ((- 102 : Int32))) (by decide))⟩, pl⟩
  · have _ := c_1
    have i_f_3 : Rg (0) (2147483647) (x2) := rg_le2 (nlt_le c_1) (rg_b rfl : Rg (0) (0) (0 : Int32)) i_x2
    refine s_cIfq (S := fS [(47, 999), (6, 4), (6, 5), (6, 6), (6, 7), (6, 8), (6, 9)] [(1503, [(34, 999), (35, 999), (36, 999), (37, 999), (38, 999), (4, 5), (4, 6), (4, 7), (4, 8), (4, 9), (4, 10)])]) T (fs_sub (pmA_s hA rfl) (fs_c (pmO_s hi_1503 rfl) fs_n)) (zX11_listMoves hF fs_a (fs_o (.head _)) (th_in _ T) r_x0 i_x1 lw pl) (fun o_2 T_4 i_o_2 f_o_2 p_o_2 => ?_)
    have pq_o_2_0 : o_2.1.toInt = 0 ∨ (0 ≤ (x1).toInt ∧ (x1).toInt ≤ 59) := p_o_2.1
    refine s_br (fun c_5 => ?_) (fun c_5 => ?_)
    · have _ := c_5
      have i_f_6 : Rg (0) (4095) (x2) := rg_lt1 c_5 i_f_3 i_o_2
      have i_f_7 : Rg (1) (4096) (o_2.1) := rg_lt2 c_5 i_f_3 i_o_2
      refine s_dI0 (zX11_freePlace hF T_4 r_x0) (fun o_4 eb_o_4 e_o_4 i_o_4 => ?_)
      have T_8 := th_eq e_o_4 T_4
      refine s_br (fun c_9 => ?_) (fun c_9 => ?_)
      · have _ := c_9
        have i_f_10 : Rg (-1) (-1) (o_4.1) := rg_eq c_9 (rg_b rfl : Rg (-1) (-1) ((- 1 : Int32)))
        have pf_11 : PlP ρ c x0 o_4.2 := (by rw [e_o_4]; exact (pl_fr T r_x0 f_o_2 (fun _ => rfl) (fun _ => rfl) (fun _ _ => rfl) (fun _ _ => rfl) rfl (fun _ => rfl) (fun _ => rfl) pl))
        exact s_some ⟨⟨(T_8), (rg_m (rg_b rfl : Rg (-104) (-104) ((- 104 : Int32))) (by decide))⟩, pf_11⟩
      · have _ := c_9
        have i_f_12 : Rg (0) (59) (o_4.1) := rg_nlo c_9 i_o_4 (rg_b rfl : Rg (-1) (-1) ((- 1 : Int32)))
        obtain ⟨r_6, e_r_6, q_r_6⟩ := thR T_8 r_x0 (k := 12) (i := 13) (k2 := 57) rfl (by decide)
        refine s_ref e_r_6 ?_
        have og_13 : Rg (0) (59) (x1) := ⟨(by have := (i_x1 : Rg (-2147483648) (2147483647) (x1)).1; have := (i_x1 : Rg (-2147483648) (2147483647) (x1)).2; have := (i_f_7 : Rg (1) (4096) (o_2.1)).1; have := (i_f_7 : Rg (1) (4096) (o_2.1)).2; have := lt_i c_5; have := (i_f_6 : Rg (0) (4095) (x2)).1; have := (i_f_6 : Rg (0) (4095) (x2)).2; have := nlt_i c_1; have : (0 : Int32).toInt = 0 := rfl; omega), (by have := (i_x1 : Rg (-2147483648) (2147483647) (x1)).1; have := (i_x1 : Rg (-2147483648) (2147483647) (x1)).2; have := (i_f_7 : Rg (1) (4096) (o_2.1)).1; have := (i_f_7 : Rg (1) (4096) (o_2.1)).2; have := lt_i c_5; have := (i_f_6 : Rg (0) (4095) (x2)).1; have := (i_f_6 : Rg (0) (4095) (x2)).2; have := nlt_i c_1; have : (0 : Int32).toInt = 0 := rfl; omega)⟩
        refine s_gd (by rw [thN T_8 q_r_6 (k := 57) (n := 60) rfl (by decide)]; exact rg_inB (og_13 : Rg (0) (59) (x1)) (by decide)) ?_
        obtain ⟨r_8, e_r_8, q_r_8⟩ := thE T_8 q_r_6 (k := 57) (n := 60) (k2 := 4) (b := 59) (og_13 : Rg (0) (59) (x1)) (by decide) (by decide) (by decide)
        refine s_ref e_r_8 ?_
        have pf_14 : PlP ρ c x0 o_4.2 := (by rw [e_o_4]; exact (pl_fr T r_x0 f_o_2 (fun _ => rfl) (fun _ => rfl) (fun _ _ => rfl) (fun _ _ => rfl) rfl (fun _ => rfl) (fun _ => rfl) pl))
        have pf_15 : HasR ρ c x0 x1 o_4.2 := (by rw [e_o_4]; exact (p_o_2.2 (show ¬ o_2.1.toInt = 0 from (by have := (i_f_7 : Rg (1) (4096) (o_2.1)).1; have := (i_f_7 : Rg (1) (4096) (o_2.1)).2; have := (og_13 : Rg (0) (59) (x1)).1; have := (og_13 : Rg (0) (59) (x1)).2; have := lt_i c_5; have := (i_f_6 : Rg (0) (4095) (x2)).1; have := (i_f_6 : Rg (0) (4095) (x2)).2; have := nlt_i c_1; have : (0 : Int32).toInt = 0 := rfl; omega))))
        refine s_cVfq (S := fS [(58, 999)] [(3200, [(34, 999), (35, 999), (36, 999), (37, 999), (38, 999), (4, 5), (4, 6), (4, 8), (4, 9), (4, 10)])]) T_8 (fs_sub (pmA_s hA rfl) (fs_c (pmO_s hi_3200 rfl) fs_n)) (zX11_settle hF fs_a (fs_o (.head _)) (th_id T_8 q_r_6 (k := 57) (w := 3200) e_r_8 rfl (by decide)) (th_in _ T_8) r_x0 i_f_12 q_r_8 pf_14 (pf_15.2 _ e_r_6 _ e_r_8)) (fun o_9 T_16 f_o_9 p_o_9 => ?_)
        obtain ⟨r_10, e_r_10, q_r_10⟩ := thR T_16 r_x0 (k := 12) (i := 6) (k2 := 6) rfl (by decide)
        refine s_ref e_r_10 ?_
        refine s_ref (hr_q (fr_R f_o_9 r_x0 (by decide) rfl rfl) e_r_6) ?_
        refine s_gd (by rw [thN T_16 q_r_6 (k := 57) (n := 60) rfl (by decide)]; exact rg_inB (i_f_12 : Rg (0) (59) (o_4.1)) (by decide)) ?_
        obtain ⟨r_13, e_r_13, q_r_13⟩ := thE T_16 q_r_6 (k := 57) (n := 60) (k2 := 4) (b := 59) (i_f_12 : Rg (0) (59) (o_4.1)) (by decide) (by decide) (by decide)
        refine s_ref e_r_13 ?_
        obtain ⟨r_14, e_r_14, q_r_14⟩ := thR T_16 r_x0 (k := 12) (i := 12) (k2 := 47) rfl (by decide)
        refine s_ref e_r_14 ?_
        refine s_gd (by rw [thN T_16 q_r_14 (k := 47) (n := 4096) rfl (by decide)]; exact rg_inB (i_f_6 : Rg (0) (4095) (x2)) (by decide)) ?_
        refine s_cVfq (S := fS [] [(3200, [(34, 999), (35, 999), (36, 999), (37, 999), (38, 999), (4, 5), (4, 6), (4, 7), (4, 8), (4, 9), (4, 10)])]) T_16 (fs_sub pmA_n (fs_c (pmO_s hi_3200 rfl) fs_n)) (zX5_make hF (fs_o (.head _)) (th_id T_16 q_r_6 (k := 57) (w := 3200) e_r_13 rfl (by decide)) (th_in _ T_16) q_r_10 q_r_13 (thI T_16 q_r_14 (k := 47) rfl : Rg (-2147483648) (2147483647) ((hI o_9 r_14 x2.toNatClampNeg))) (thG T_16 q_r_14)) (fun o_16 T_17 f_o_16 p_o_16 => ?_)
        have pf_18 : PlP ρ c x0 o_16 := (pl_rc T_16 r_x0 f_o_16 (fun _ => rfl) (fun _ => rfl) (fun _ _ => rfl) (fun _ _ => rfl) (show RyC ρ c o_9 o_16 from p_o_16) p_o_9.1)
        exact s_some ⟨⟨(T_17), (rg_m i_f_12 (by decide))⟩, pf_18⟩
    · have _ := c_5
      have pf_19 : PlP ρ c x0 o_2.2 := (pl_fr T r_x0 f_o_2 (fun _ => rfl) (fun _ => rfl) (fun _ _ => rfl) (fun _ _ => rfl) rfl (fun _ => rfl) (fun _ => rfl) pl)
      exact s_some ⟨⟨(T_4), (rg_m (rg_b rfl : Rg (-102) (-102) ((- 102 : Int32))) (by decide))⟩, pf_19⟩
set_option maxRecDepth 20000 in
theorem zX8_begins_2 {ρ : Nat → Nat} {c : Cm} {h0 : Hp} {F : Nat} (hF : 700000 ≤ F) : ∀ (f : Nat) {h : Hp} {x0 : Nat} {x1 : Nat} {x2 : Int32}, h = h0 → TH ρ c h → ρ x0 = 9 → ρ x1 = 10 → Rg (0) (1200) (x2) → (1200 - x2.toInt).toNat < f → Sat (sX8_begins_2 F f h x0 x1 x2) (ZI0 h0 (0) (1)) := by
  intro f
  induction f with
  | zero => intros; omega
  | succ f ih =>
    intro h x0 x1 x2 E T r_x0 r_x1 i_x2 hm
    rw [sX8_begins_2]
    obtain ⟨C_2, hC_2⟩ : ∃ C : Int, C = x2.toInt := ⟨_, rfl⟩
    have hk_2 : ∀ {h : Hp} {x0 : Nat} {x1 : Nat} {x2 : Int32}, h = h0 → TH ρ c h → ρ x0 = 9 → ρ x1 = 10 → Rg (0) (1200) (x2) → C_2 < x2.toInt → Sat (sX8_begins_2 F f h x0 x1 x2) (ZI0 h0 (0) (1)) := by
      intro h' x0' x1' x2' E' T' r_x0' r_x1' i_x2' hl
      exact ih E' T' r_x0' r_x1' i_x2' (by have := i_x2'.1; have := i_x2'.2; omega)
    have hc_2 : C_2 ≤ x2.toInt := by omega
    obtain ⟨r_1, e_r_1, q_r_1⟩ := thR T r_x0 (k := 9) (i := 3) (k2 := 10) rfl (by decide)
    refine s_ref e_r_1 ?_
    refine s_br (fun c_1 => ?_) (fun c_1 => ?_)
    · have _ := c_1
      exact s_some ⟨E, (rg_m (rg_b rfl : Rg (1) (1) ((1 : Int32))) (by decide))⟩
    · have _ := c_1
      have i_f_2 : Rg (0) (1199) (x2) := rg_lt1 (nle_lt c_1) i_x2 (thI T q_r_1 (k := 10) (i := 1) rfl : Rg (0) (1200) ((hI h r_1 1)))
      have i_f_3 : Rg (1) (1200) ((hI h r_1 1)) := rg_lt2 (nle_lt c_1) i_x2 (thI T q_r_1 (k := 10) (i := 1) rfl : Rg (0) (1200) ((hI h r_1 1)))
      refine s_ref e_r_1 ?_
      refine s_dP0 (zX9_byteAt hF T q_r_1 (rg_m i_f_2 (by decide))) (fun o_4 eb_o_4 e_o_4 i_o_4 p_o_4 => ?_)
      have T_4 := th_eq e_o_4 T
      refine s_dP0 (zX9_byteAt hF T_4 r_x1 (rg_m i_f_2 (by decide))) (fun o_5 eb_o_5 e_o_5 i_o_5 p_o_5 => ?_)
      have T_5 := th_eq e_o_5 T_4
      refine s_br (fun c_6 => ?_) (fun c_6 => ?_)
      · have _ := c_6
        refine s_q (fun v_7 e_7 => ?_)
        have i_v_7 : Rg (1) (1200) (v_7) := by rw [e_7]; exact (rg_add i_f_2 (rg_b rfl : Rg (1) (1) ((1 : Int32))) (by decide) : Rg (1) (1200) (x2 + (1 : Int32)))
        have m_8 : (v_7).toInt = x2.toInt + 1 := by rw [e_7]; exact rg_inc i_f_2 (by decide)
        exact hk_2 (e_o_5.trans (e_o_4.trans E)) T_5 r_x0 r_x1 (rg_m i_v_7 (by decide)) (by have := hc_2; omega)
      · have _ := c_6
        exact s_some ⟨(e_o_5.trans (e_o_4.trans E)), (rg_m (rg_b rfl : Rg (0) (0) ((0 : Int32))) (by decide))⟩
set_option maxRecDepth 20000 in
theorem zX8_begins {ρ : Nat → Nat} {c : Cm} {F : Nat} (hF : 700000 ≤ F) {h : Hp} {x0 : Nat} {x1 : Nat} (T : TH ρ c h) (r_x0 : ρ x0 = 9) (r_x1 : ρ x1 = 10) : Sat (sX8_begins F h x0 x1) (ZI0 h (0) (1)) := by
  unfold sX8_begins 
  have m_1 : Rg (0) (1200) ((0 : Int32)) := (rg_m (rg_b rfl : Rg (0) (0) ((0 : Int32))) (by decide))
  exact zX8_begins_2 hF F rfl T r_x0 r_x1 (rg_m (rg_b rfl : Rg (0) (0) ((0 : Int32))) (by decide)) (by have := m_1.1; have := m_1.2; omega)
set_option maxRecDepth 20000 in
theorem zX7_writeSquare {ρ : Nat → Nat} {c : Cm} {F : Nat} {w_x0 w_x2 : Nat} (hF : 700000 ≤ F) (hO_x2 : pmO c w_x2 [(49, 999), (10, 1)]) {h : Hp} {x0 : Nat} {x1 : Int32} {x2 : Nat} (o_x0 : cw c x0 = w_x0) (o_x2 : cw c x2 = w_x2) (T : TH ρ c h) (r_x0 : ρ x0 = 2) (i_x1 : Rg (0) (63) (x1)) (r_x2 : ρ x2 = 10) : Sat (sX7_writeSquare h x0 x1 x2) (ZV ρ c) := by
  unfold sX7_writeSquare 
  obtain ⟨r_1, e_r_1, q_r_1⟩ := thR T r_x0 (k := 2) (i := 19) (k2 := 32) rfl (by decide)
  refine s_ref e_r_1 ?_
  refine s_gd (by rw [thN T q_r_1 (k := 32) (n := 64) rfl (by decide)]; exact rg_inB (i_x1 : Rg (0) (63) (x1)) (by decide)) ?_
  refine s_cV (zX9_append hF (pmO_e o_x2 hO_x2 rfl) T r_x2 (rg_m (rg_add (rg_b rfl : Rg (97) (97) ((97 : Int32))) (thI T q_r_1 (k := 32) rfl : Rg (0) (7) ((hI h r_1 x1.toNatClampNeg))) (by decide) : Rg (97) (104) (((97 : Int32) + (hI h r_1 x1.toNatClampNeg)))) (by decide))) (fun o_3 T_1 => ?_)
  obtain ⟨r_4, e_r_4, q_r_4⟩ := thR T_1 r_x0 (k := 2) (i := 20) (k2 := 33) rfl (by decide)
  refine s_ref e_r_4 ?_
  refine s_gd (by rw [thN T_1 q_r_4 (k := 33) (n := 64) rfl (by decide)]; exact rg_inB (i_x1 : Rg (0) (63) (x1)) (by decide)) ?_
  refine s_cV (zX9_append hF (pmO_e o_x2 hO_x2 rfl) T_1 r_x2 (rg_m (rg_add (rg_b rfl : Rg (49) (49) ((49 : Int32))) (thI T_1 q_r_4 (k := 33) rfl : Rg (0) (7) ((hI o_3 r_4 x1.toNatClampNeg))) (by decide) : Rg (49) (56) (((49 : Int32) + (hI o_3 r_4 x1.toNatClampNeg)))) (by decide))) (fun o_6 T_2 => ?_)
  exact s_some (T_2)
set_option maxRecDepth 20000 in
theorem zX8_isRival {ρ : Nat → Nat} {c : Cm} {F : Nat} (hF : 700000 ≤ F) {h : Hp} {x0 : Int32} {x1 : Int32} (T : TH ρ c h) (i_x0 : Rg (-2147483648) (2147483647) (x0)) (i_x1 : Rg (-2147483648) (2147483647) (x1)) : Sat (sX8_isRival h x0 x1) (ZI0 h (0) (1)) := by
  unfold sX8_isRival sX5_manOf sX5_comeTo sX5_kindOf sX8_isRival_34 sX8_isRival_35
  refine s_pu (fun o_1z e_1 => ?_)
  try dsimp only
  have i_o_1z : Rg (0) (15) (o_1z) := by rw [e_1]; exact (rg_and (rg_b rfl : Rg (15) (15) ((15 : Int32))) (by decide) : Rg (0) (15) ((x0 >>> ((12 : Int32) &&& 31)) &&& (15 : Int32)))
  refine s_pu (fun o_2z e_2 => ?_)
  try dsimp only
  have i_o_2z : Rg (0) (15) (o_2z) := by rw [e_2]; exact (rg_and (rg_b rfl : Rg (15) (15) ((15 : Int32))) (by decide) : Rg (0) (15) ((x1 >>> ((12 : Int32) &&& 31)) &&& (15 : Int32)))
  refine s_br (fun c_3 => ?_) (fun c_3 => ?_)
  · have _ := c_3
    refine s_pu (fun o_4z e_4 => ?_)
    try dsimp only
    have i_o_4z : Rg (0) (63) (o_4z) := by rw [e_4]; exact (rg_and (rg_b rfl : Rg (63) (63) ((63 : Int32))) (by decide) : Rg (0) (63) (x0 &&& (63 : Int32)))
    refine s_pu (fun o_5z e_5 => ?_)
    try dsimp only
    have i_o_5z : Rg (0) (63) (o_5z) := by rw [e_5]; exact (rg_and (rg_b rfl : Rg (63) (63) ((63 : Int32))) (by decide) : Rg (0) (63) (x1 &&& (63 : Int32)))
    refine s_br (fun c_6 => ?_) (fun c_6 => ?_)
    · have _ := c_6
      refine s_pu (fun o_7z e_7 => ?_)
      try dsimp only
      have i_o_7z : Rg (0) (3) (o_7z) := by rw [e_7]; exact (rg_and (rg_b rfl : Rg (3) (3) ((3 : Int32))) (by decide) : Rg (0) (3) ((x0 >>> ((24 : Int32) &&& 31)) &&& (3 : Int32)))
      refine s_br (fun c_8 => ?_) (fun c_8 => ?_)
      · have _ := c_8
        have i_f_9 : Rg (2) (3) (o_7z) := rg_lt2 c_8 (rg_b rfl : Rg (1) (1) ((1 : Int32))) i_o_7z
        refine s_gd (rg_bool (rg_m (rg_b rfl : Rg (0) (0) ((0 : Int32))) (by decide))) ?_
        exact s_some ⟨rfl, (rg_m (rg_b rfl : Rg (0) (0) ((0 : Int32))) (by decide))⟩
      · have _ := c_8
        have i_f_10 : Rg (0) (1) (o_7z) := rg_le1 (nlt_le c_8) i_o_7z (rg_b rfl : Rg (1) (1) ((1 : Int32)))
        refine s_gd (rg_bool (rg_m (rg_b rfl : Rg (1) (1) ((1 : Int32))) (by decide))) ?_
        exact s_some ⟨rfl, (rg_m (rg_b rfl : Rg (1) (1) ((1 : Int32))) (by decide))⟩
    · have _ := c_6
      refine s_gd (rg_bool (rg_m (rg_b rfl : Rg (0) (0) ((0 : Int32))) (by decide))) ?_
      exact s_some ⟨rfl, (rg_m (rg_b rfl : Rg (0) (0) ((0 : Int32))) (by decide))⟩
  · have _ := c_3
    refine s_gd (rg_bool (rg_m (rg_b rfl : Rg (0) (0) ((0 : Int32))) (by decide))) ?_
    exact s_some ⟨rfl, (rg_m (rg_b rfl : Rg (0) (0) ((0 : Int32))) (by decide))⟩
set_option maxRecDepth 20000 in
theorem zX8_writeLeft_231 {ρ : Nat → Nat} {c : Cm} {F : Nat} {w_x4 : Nat} (hF : 700000 ≤ F) (hO_x4 : pmO c w_x4 [(49, 999), (10, 1)]) {h : Hp} {x0 : Nat} {x4 : Nat} {x5 : Int32} {x11 : Int32} (o_x4 : cw c x4 = w_x4) (T : TH ρ c h) (r_x0 : ρ x0 = 9) (r_x4 : ρ x4 = 10) (i_x5 : Rg (0) (63) (x5)) (i_x11 : Rg (0) (1) (x11)) : Sat (sX8_writeLeft_231 F h x0 x4 x5 x11) (ZV ρ c) := by
  unfold sX8_writeLeft_231 sX8_writeLeft_254
  refine s_br (fun c_1 => ?_) (fun c_1 => ?_)
  · have _ := c_1
    have i_f_2 : Rg (0) (0) (x11) := rg_eq c_1 (rg_b rfl : Rg (0) (0) (0 : Int32))
    exact s_some (T)
  · have _ := c_1
    have i_f_3 : Rg (1) (1) (x11) := rg_nlo c_1 i_x11 (rg_b rfl : Rg (0) (0) (0 : Int32))
    obtain ⟨r_2, e_r_2, q_r_2⟩ := thR T r_x0 (k := 9) (i := 0) (k2 := 2) rfl (by decide)
    refine s_ref e_r_2 ?_
    obtain ⟨r_3, e_r_3, q_r_3⟩ := thR T q_r_2 (k := 2) (i := 20) (k2 := 33) rfl (by decide)
    refine s_ref e_r_3 ?_
    refine s_gd (by rw [thN T q_r_3 (k := 33) (n := 64) rfl (by decide)]; exact rg_inB (i_x5 : Rg (0) (63) (x5)) (by decide)) ?_
    refine s_cV (zX9_append hF (pmO_e o_x4 hO_x4 rfl) T r_x4 (rg_m (rg_add (rg_b rfl : Rg (49) (49) ((49 : Int32))) (thI T q_r_3 (k := 33) rfl : Rg (0) (7) ((hI h r_3 x5.toNatClampNeg))) (by decide) : Rg (49) (56) (((49 : Int32) + (hI h r_3 x5.toNatClampNeg)))) (by decide))) (fun o_5 T_4 => ?_)
    exact s_some (T_4)
set_option maxRecDepth 20000 in
theorem zX8_writeLeft_87 {ρ : Nat → Nat} {c : Cm} {F : Nat} {w_x1 w_x4 : Nat} (hF : 700000 ≤ F) {k_18 : Hp → Nat → Nat → Int32 → Int32 → Nat → Int32 → Int32 → Int32 → Int32 → Int32 → Option (Hp)} {C_18 : Int} (hk_18 : ∀ {h : Hp} {x0 : Nat} {x1 : Nat} {x2 : Int32} {x3 : Int32} {x4 : Nat} {x5 : Int32} {x6 : Int32} {x7 : Int32} {x8 : Int32} {x9 : Int32}, cw c x1 = w_x1 → cw c x4 = w_x4 → TH ρ c h → ρ x0 = 9 → ρ x1 = 47 → Rg (1) (4096) (x2) → Rg (-2147483648) (2147483647) (x3) → ρ x4 = 10 → Rg (0) (63) (x5) → Rg (0) (1) (x6) → Rg (0) (1) (x7) → Rg (0) (1) (x8) → Rg (0) (4096) (x9) → (GMq (c.2.1 50) x3) → C_18 < x9.toInt → Sat (k_18 h x0 x1 x2 x3 x4 x5 x6 x7 x8 x9) (ZV ρ c)) {h : Hp} {x0 : Nat} {x1 : Nat} {x2 : Int32} {x3 : Int32} {x4 : Nat} {x5 : Int32} {x6 : Int32} {x8 : Int32} {x9 : Int32} {x10 : Int32} {t0 : Int32} (o_x1 : cw c x1 = w_x1) (o_x4 : cw c x4 = w_x4) (T : TH ρ c h) (r_x0 : ρ x0 = 9) (r_x1 : ρ x1 = 47) (i_x2 : Rg (1) (4096) (x2)) (i_x3 : Rg (-2147483648) (2147483647) (x3)) (r_x4 : ρ x4 = 10) (i_x5 : Rg (0) (63) (x5)) (i_x6 : Rg (1) (1) (x6)) (i_x8 : Rg (0) (1) (x8)) (i_x9 : Rg (0) (4095) (x9)) (i_x10 : Rg (0) (63) (x10)) (i_t0 : Rg (0) (1) (t0)) (hc_18 : C_18 ≤ x9.toInt) (gx : (GMq (c.2.1 50) x3)) : Sat (sX8_writeLeft_87 F k_18 h x0 x1 x2 x3 x4 x5 x6 x8 x9 x10 t0) (ZV ρ c) := by
  unfold sX8_writeLeft_87 sX8_writeLeft_117 sX8_writeLeft_122 sX8_writeLeft_124
  refine s_br (fun c_1 => ?_) (fun c_1 => ?_)
  · have _ := c_1
    have i_f_2 : Rg (0) (0) (x8) := rg_eq c_1 (rg_b rfl : Rg (0) (0) (0 : Int32))
    obtain ⟨r_2, e_r_2, q_r_2⟩ := thR T r_x0 (k := 9) (i := 0) (k2 := 2) rfl (by decide)
    refine s_ref e_r_2 ?_
    obtain ⟨r_3, e_r_3, q_r_3⟩ := thR T q_r_2 (k := 2) (i := 20) (k2 := 33) rfl (by decide)
    refine s_ref e_r_3 ?_
    refine s_gd (by rw [thN T q_r_3 (k := 33) (n := 64) rfl (by decide)]; exact rg_inB (i_x10 : Rg (0) (63) (x10)) (by decide)) ?_
    refine s_ref e_r_2 ?_
    refine s_ref e_r_3 ?_
    refine s_gd (by rw [thN T q_r_3 (k := 33) (n := 64) rfl (by decide)]; exact rg_inB (i_x5 : Rg (0) (63) (x5)) (by decide)) ?_
    refine s_br (fun c_3 => ?_) (fun c_3 => ?_)
    · have _ := c_3
      refine s_q (fun v_1q3 e_4 => ?_)
      have i_v_1q3 : Rg (1) (4096) (v_1q3) := by rw [e_4]; exact (rg_add i_x9 (rg_b rfl : Rg (1) (1) ((1 : Int32))) (by decide) : Rg (1) (4096) (x9 + (1 : Int32)))
      have m_5 : (v_1q3).toInt = x9.toInt + 1 := by rw [e_4]; exact rg_inc i_x9 (by decide)
      exact hk_18 o_x1 o_x4 T r_x0 r_x1 i_x2 i_x3 r_x4 i_x5 (rg_m i_x6 (by decide)) i_t0 (rg_m (rg_b rfl : Rg (1) (1) ((1 : Int32))) (by decide)) (rg_m i_v_1q3 (by decide)) gx (by have := hc_18; omega)
    · have _ := c_3
      refine s_q (fun v_1q5 e_6 => ?_)
      have i_v_1q5 : Rg (1) (4096) (v_1q5) := by rw [e_6]; exact (rg_add i_x9 (rg_b rfl : Rg (1) (1) ((1 : Int32))) (by decide) : Rg (1) (4096) (x9 + (1 : Int32)))
      have m_7 : (v_1q5).toInt = x9.toInt + 1 := by rw [e_6]; exact rg_inc i_x9 (by decide)
      exact hk_18 o_x1 o_x4 T r_x0 r_x1 i_x2 i_x3 r_x4 i_x5 (rg_m i_x6 (by decide)) i_t0 (rg_m (rg_b rfl : Rg (0) (0) ((0 : Int32))) (by decide)) (rg_m i_v_1q5 (by decide)) gx (by have := hc_18; omega)
  · have _ := c_1
    have i_f_8 : Rg (1) (1) (x8) := rg_nlo c_1 i_x8 (rg_b rfl : Rg (0) (0) (0 : Int32))
    refine s_q (fun v_1q8 e_9 => ?_)
    have i_v_1q8 : Rg (1) (4096) (v_1q8) := by rw [e_9]; exact (rg_add i_x9 (rg_b rfl : Rg (1) (1) ((1 : Int32))) (by decide) : Rg (1) (4096) (x9 + (1 : Int32)))
    have m_10 : (v_1q8).toInt = x9.toInt + 1 := by rw [e_9]; exact rg_inc i_x9 (by decide)
    exact hk_18 o_x1 o_x4 T r_x0 r_x1 i_x2 i_x3 r_x4 i_x5 (rg_m i_x6 (by decide)) i_t0 (rg_m (rg_b rfl : Rg (1) (1) ((1 : Int32))) (by decide)) (rg_m i_v_1q8 (by decide)) gx (by have := hc_18; omega)
set_option maxRecDepth 20000 in
theorem zX8_writeLeft_206 {ρ : Nat → Nat} {c : Cm} {F : Nat} {w_x4 : Nat} (hF : 700000 ≤ F) (hO_x4 : pmO c w_x4 [(49, 999), (10, 1)]) {h : Hp} {x0 : Nat} {x4 : Nat} {x5 : Int32} {x10 : Int32} {t0 : Int32} (o_x4 : cw c x4 = w_x4) (T : TH ρ c h) (r_x0 : ρ x0 = 9) (r_x4 : ρ x4 = 10) (i_x5 : Rg (0) (63) (x5)) (i_x10 : Rg (0) (1) (x10)) (i_t0 : Rg (0) (1) (t0)) : Sat (sX8_writeLeft_206 F h x0 x4 x5 x10 t0) (ZV ρ c) := by
  unfold sX8_writeLeft_206 
  refine s_br (fun c_1 => ?_) (fun c_1 => ?_)
  · have _ := c_1
    have i_f_2 : Rg (0) (0) (x10) := rg_eq c_1 (rg_b rfl : Rg (0) (0) (0 : Int32))
    exact zX8_writeLeft_231 hF (pmO_s hO_x4 rfl) o_x4 T r_x0 r_x4 i_x5 i_t0
  · have _ := c_1
    have i_f_3 : Rg (1) (1) (x10) := rg_nlo c_1 i_x10 (rg_b rfl : Rg (0) (0) (0 : Int32))
    obtain ⟨r_2, e_r_2, q_r_2⟩ := thR T r_x0 (k := 9) (i := 0) (k2 := 2) rfl (by decide)
    refine s_ref e_r_2 ?_
    obtain ⟨r_3, e_r_3, q_r_3⟩ := thR T q_r_2 (k := 2) (i := 19) (k2 := 32) rfl (by decide)
    refine s_ref e_r_3 ?_
    refine s_gd (by rw [thN T q_r_3 (k := 32) (n := 64) rfl (by decide)]; exact rg_inB (i_x5 : Rg (0) (63) (x5)) (by decide)) ?_
    refine s_cV (zX9_append hF (pmO_e o_x4 hO_x4 rfl) T r_x4 (rg_m (rg_add (rg_b rfl : Rg (97) (97) ((97 : Int32))) (thI T q_r_3 (k := 32) rfl : Rg (0) (7) ((hI h r_3 x5.toNatClampNeg))) (by decide) : Rg (97) (104) (((97 : Int32) + (hI h r_3 x5.toNatClampNeg)))) (by decide))) (fun o_5 T_4 => ?_)
    exact zX8_writeLeft_231 hF (pmO_s hO_x4 rfl) o_x4 T_4 r_x0 r_x4 i_x5 i_t0
set_option maxRecDepth 20000 in
theorem zX8_writeLeft_184 {ρ : Nat → Nat} {c : Cm} {F : Nat} {w_x4 : Nat} (hF : 700000 ≤ F) (hO_x4 : pmO c w_x4 [(49, 999), (10, 1)]) {h : Hp} {x0 : Nat} {x4 : Nat} {x5 : Int32} {x6 : Int32} {x7 : Int32} {x9 : Int32} {t0 : Int32} (o_x4 : cw c x4 = w_x4) (T : TH ρ c h) (r_x0 : ρ x0 = 9) (r_x4 : ρ x4 = 10) (i_x5 : Rg (0) (63) (x5)) (i_x6 : Rg (0) (1) (x6)) (i_x7 : Rg (0) (1) (x7)) (i_x9 : Rg (0) (1) (x9)) (i_t0 : Rg (0) (1) (t0)) : Sat (sX8_writeLeft_184 F h x0 x4 x5 x6 x7 x9 t0) (ZV ρ c) := by
  unfold sX8_writeLeft_184 sX8_writeLeft_205 sX8_writeLeft_201
  refine s_br (fun c_1 => ?_) (fun c_1 => ?_)
  · have _ := c_1
    have i_f_2 : Rg (0) (0) (x7) := rg_eq c_1 (rg_b rfl : Rg (0) (0) (0 : Int32))
    exact zX8_writeLeft_206 hF (pmO_s hO_x4 rfl) o_x4 T r_x0 r_x4 i_x5 i_t0 (rg_m (rg_b rfl : Rg (0) (0) ((0 : Int32))) (by decide))
  · have _ := c_1
    have i_f_3 : Rg (1) (1) (x7) := rg_nlo c_1 i_x7 (rg_b rfl : Rg (0) (0) (0 : Int32))
    refine s_br (fun c_4 => ?_) (fun c_4 => ?_)
    · have _ := c_4
      have i_f_5 : Rg (0) (0) (x9) := rg_eq c_4 (rg_b rfl : Rg (0) (0) (0 : Int32))
      refine s_br (fun c_6 => ?_) (fun c_6 => ?_)
      · have _ := c_6
        have i_f_7 : Rg (0) (0) (x6) := rg_eq c_6 (rg_b rfl : Rg (0) (0) (0 : Int32))
        exact zX8_writeLeft_206 hF (pmO_s hO_x4 rfl) o_x4 T r_x0 r_x4 i_x5 i_t0 (rg_m (rg_b rfl : Rg (0) (0) ((0 : Int32))) (by decide))
      · have _ := c_6
        have i_f_8 : Rg (1) (1) (x6) := rg_nlo c_6 i_x6 (rg_b rfl : Rg (0) (0) (0 : Int32))
        exact zX8_writeLeft_206 hF (pmO_s hO_x4 rfl) o_x4 T r_x0 r_x4 i_x5 i_t0 (rg_m (rg_b rfl : Rg (1) (1) ((1 : Int32))) (by decide))
    · have _ := c_4
      have i_f_9 : Rg (1) (1) (x9) := rg_nlo c_4 i_x9 (rg_b rfl : Rg (0) (0) (0 : Int32))
      exact zX8_writeLeft_206 hF (pmO_s hO_x4 rfl) o_x4 T r_x0 r_x4 i_x5 i_t0 (rg_m (rg_b rfl : Rg (1) (1) ((1 : Int32))) (by decide))
set_option maxRecDepth 20000 in
theorem zX8_writeLeft_157 {ρ : Nat → Nat} {c : Cm} {F : Nat} {w_x4 : Nat} (hF : 700000 ≤ F) (hO_x4 : pmO c w_x4 [(49, 999), (10, 1)]) {h : Hp} {x0 : Nat} {x4 : Nat} {x5 : Int32} {x6 : Int32} {x7 : Int32} {x8 : Int32} {t0 : Int32} (o_x4 : cw c x4 = w_x4) (T : TH ρ c h) (r_x0 : ρ x0 = 9) (r_x4 : ρ x4 = 10) (i_x5 : Rg (0) (63) (x5)) (i_x6 : Rg (0) (1) (x6)) (i_x7 : Rg (0) (1) (x7)) (i_x8 : Rg (0) (1) (x8)) (i_t0 : Rg (0) (1) (t0)) : Sat (sX8_writeLeft_157 F h x0 x4 x5 x6 x7 x8 t0) (ZV ρ c) := by
  unfold sX8_writeLeft_157 sX8_writeLeft_183 sX8_writeLeft_179
  refine s_br (fun c_1 => ?_) (fun c_1 => ?_)
  · have _ := c_1
    have i_f_2 : Rg (0) (0) (t0) := rg_eq c_1 (rg_b rfl : Rg (0) (0) (0 : Int32))
    refine s_br (fun c_3 => ?_) (fun c_3 => ?_)
    · have _ := c_3
      have i_f_4 : Rg (0) (0) (x6) := rg_eq c_3 (rg_b rfl : Rg (0) (0) (0 : Int32))
      exact zX8_writeLeft_184 hF (pmO_s hO_x4 rfl) o_x4 T r_x0 r_x4 i_x5 (rg_m i_f_4 (by decide)) i_x7 (rg_m i_f_2 (by decide)) (rg_m (rg_b rfl : Rg (0) (0) ((0 : Int32))) (by decide))
    · have _ := c_3
      have i_f_5 : Rg (1) (1) (x6) := rg_nlo c_3 i_x6 (rg_b rfl : Rg (0) (0) (0 : Int32))
      refine s_br (fun c_6 => ?_) (fun c_6 => ?_)
      · have _ := c_6
        have i_f_7 : Rg (0) (0) (x7) := rg_eq c_6 (rg_b rfl : Rg (0) (0) (0 : Int32))
        exact zX8_writeLeft_184 hF (pmO_s hO_x4 rfl) o_x4 T r_x0 r_x4 i_x5 (rg_m i_f_5 (by decide)) (rg_m i_f_7 (by decide)) (rg_m i_f_2 (by decide)) (rg_m (rg_b rfl : Rg (1) (1) ((1 : Int32))) (by decide))
      · have _ := c_6
        have i_f_8 : Rg (1) (1) (x7) := rg_nlo c_6 i_x7 (rg_b rfl : Rg (0) (0) (0 : Int32))
        refine s_br (fun c_9 => ?_) (fun c_9 => ?_)
        · have _ := c_9
          have i_f_10 : Rg (0) (0) (x8) := rg_eq c_9 (rg_b rfl : Rg (0) (0) (0 : Int32))
          exact zX8_writeLeft_184 hF (pmO_s hO_x4 rfl) o_x4 T r_x0 r_x4 i_x5 (rg_m i_f_5 (by decide)) (rg_m i_f_8 (by decide)) (rg_m i_f_2 (by decide)) (rg_m (rg_b rfl : Rg (0) (0) ((0 : Int32))) (by decide))
        · have _ := c_9
          have i_f_11 : Rg (1) (1) (x8) := rg_nlo c_9 i_x8 (rg_b rfl : Rg (0) (0) (0 : Int32))
          exact zX8_writeLeft_184 hF (pmO_s hO_x4 rfl) o_x4 T r_x0 r_x4 i_x5 (rg_m i_f_5 (by decide)) (rg_m i_f_8 (by decide)) (rg_m i_f_2 (by decide)) (rg_m (rg_b rfl : Rg (1) (1) ((1 : Int32))) (by decide))
  · have _ := c_1
    have i_f_12 : Rg (1) (1) (t0) := rg_nlo c_1 i_t0 (rg_b rfl : Rg (0) (0) (0 : Int32))
    exact zX8_writeLeft_184 hF (pmO_s hO_x4 rfl) o_x4 T r_x0 r_x4 i_x5 i_x6 i_x7 (rg_m i_f_12 (by decide)) (rg_m (rg_b rfl : Rg (1) (1) ((1 : Int32))) (by decide))
set_option maxRecDepth 20000 in
theorem zX8_writeLeft_18 {ρ : Nat → Nat} {c : Cm} {F : Nat} {w_x1 w_x4 : Nat} (hF : 700000 ≤ F) (hO_x4 : pmO c w_x4 [(49, 999), (10, 1)]) : ∀ (f : Nat) {h : Hp} {x0 : Nat} {x1 : Nat} {x2 : Int32} {x3 : Int32} {x4 : Nat} {x5 : Int32} {x6 : Int32} {x7 : Int32} {x8 : Int32} {x9 : Int32}, cw c x1 = w_x1 → cw c x4 = w_x4 → TH ρ c h → ρ x0 = 9 → ρ x1 = 47 → Rg (1) (4096) (x2) → Rg (-2147483648) (2147483647) (x3) → ρ x4 = 10 → Rg (0) (63) (x5) → Rg (0) (1) (x6) → Rg (0) (1) (x7) → Rg (0) (1) (x8) → Rg (0) (4096) (x9) → (GMq (c.2.1 50) x3) → (4096 - x9.toInt).toNat < f → Sat (sX8_writeLeft_18 F f h x0 x1 x2 x3 x4 x5 x6 x7 x8 x9) (ZV ρ c) := by
  intro f
  induction f with
  | zero => intros; omega
  | succ f ih =>
    intro h x0 x1 x2 x3 x4 x5 x6 x7 x8 x9 o_x1 o_x4 T r_x0 r_x1 i_x2 i_x3 r_x4 i_x5 i_x6 i_x7 i_x8 i_x9 gx hm
    rw [sX8_writeLeft_18]
    unfold sX5_manOf sX8_writeLeft_156 sX5_leftBy sX8_writeLeft_124 sX8_writeLeft_82
    obtain ⟨C_18, hC_18⟩ : ∃ C : Int, C = x9.toInt := ⟨_, rfl⟩
    have hk_18 : ∀ {h : Hp} {x0 : Nat} {x1 : Nat} {x2 : Int32} {x3 : Int32} {x4 : Nat} {x5 : Int32} {x6 : Int32} {x7 : Int32} {x8 : Int32} {x9 : Int32}, cw c x1 = w_x1 → cw c x4 = w_x4 → TH ρ c h → ρ x0 = 9 → ρ x1 = 47 → Rg (1) (4096) (x2) → Rg (-2147483648) (2147483647) (x3) → ρ x4 = 10 → Rg (0) (63) (x5) → Rg (0) (1) (x6) → Rg (0) (1) (x7) → Rg (0) (1) (x8) → Rg (0) (4096) (x9) → (GMq (c.2.1 50) x3) → C_18 < x9.toInt → Sat (sX8_writeLeft_18 F f h x0 x1 x2 x3 x4 x5 x6 x7 x8 x9) (ZV ρ c) := by
      intro h' x0' x1' x2' x3' x4' x5' x6' x7' x8' x9' o_x1' o_x4' T' r_x0' r_x1' i_x2' i_x3' r_x4' i_x5' i_x6' i_x7' i_x8' i_x9' gx' hl
      exact ih o_x1' o_x4' T' r_x0' r_x1' i_x2' i_x3' r_x4' i_x5' i_x6' i_x7' i_x8' i_x9' gx' (by have := i_x9'.1; have := i_x9'.2; omega)
    have hc_18 : C_18 ≤ x9.toInt := by omega
    refine s_br (fun c_1 => ?_) (fun c_1 => ?_)
    · have _ := c_1
      have i_f_2 : Rg (1) (4096) (x9) := rg_le2 c_1 i_x2 i_x9
      refine s_pu (fun o_2z e_3 => ?_)
      try dsimp only
      have i_o_2z : Rg (0) (11) (o_2z) := by rw [e_3]; exact (gq_man gx : Rg (0) (11) ((x3 >>> ((12 : Int32) &&& 31)) &&& (15 : Int32)))
      obtain ⟨r_3, e_r_3, q_r_3⟩ := thR T r_x0 (k := 9) (i := 0) (k2 := 2) rfl (by decide)
      refine s_ref e_r_3 ?_
      refine s_br (fun c_4 => ?_) (fun c_4 => ?_)
      · have _ := c_4
        have i_f_5 : Rg (0) (11) ((hI h r_3 5)) := rg_eq c_4.symm i_o_2z
        refine s_dI0 (zX5_takenBy hF T i_x3 gx) (fun o_5 eb_o_5 e_o_5 i_o_5 => ?_)
        have T_6 := th_eq e_o_5 T
        refine s_br (fun c_7 => ?_) (fun c_7 => ?_)
        · have _ := c_7
          have i_f_8 : Rg (-1) (-1) (o_5.1) := rg_eq c_7 (rg_b rfl : Rg (-1) (-1) ((- 1 : Int32)))
          exact zX8_writeLeft_157 hF (pmO_s hO_x4 rfl) o_x4 T_6 r_x0 r_x4 i_x5 i_x6 i_x7 i_x8 (rg_m (rg_b rfl : Rg (0) (0) ((0 : Int32))) (by decide))
        · have _ := c_7
          have i_f_9 : Rg (0) (11) (o_5.1) := rg_nlo c_7 i_o_5 (rg_b rfl : Rg (-1) (-1) ((- 1 : Int32)))
          exact zX8_writeLeft_157 hF (pmO_s hO_x4 rfl) o_x4 T_6 r_x0 r_x4 i_x5 i_x6 i_x7 i_x8 (rg_m (rg_b rfl : Rg (1) (1) ((1 : Int32))) (by decide))
      · have _ := c_4
        exact zX8_writeLeft_157 hF (pmO_s hO_x4 rfl) o_x4 T r_x0 r_x4 i_x5 i_x6 i_x7 i_x8 (rg_m (rg_b rfl : Rg (0) (0) ((0 : Int32))) (by decide))
    · have _ := c_1
      have i_f_10 : Rg (0) (4095) (x9) := rg_lt1 (nle_lt c_1) i_x9 i_x2
      refine s_gd (by rw [thN T r_x1 (k := 47) (n := 4096) rfl (by decide)]; exact rg_inB (i_f_10 : Rg (0) (4095) (x9)) (by decide)) ?_
      refine s_pu (fun o_8z e_11 => ?_)
      try dsimp only
      have i_o_8z : Rg (0) (63) (o_8z) := by rw [e_11]; exact (rg_and (rg_b rfl : Rg (63) (63) ((63 : Int32))) (by decide) : Rg (0) (63) (((hI h x1 x9.toNatClampNeg) >>> ((6 : Int32) &&& 31)) &&& (63 : Int32)))
      refine s_br (fun c_12 => ?_) (fun c_12 => ?_)
      · have _ := c_12
        refine s_q (fun v_1q3 e_13 => ?_)
        have i_v_1q3 : Rg (1) (4096) (v_1q3) := by rw [e_13]; exact (rg_add i_f_10 (rg_b rfl : Rg (1) (1) ((1 : Int32))) (by decide) : Rg (1) (4096) (x9 + (1 : Int32)))
        have m_14 : (v_1q3).toInt = x9.toInt + 1 := by rw [e_13]; exact rg_inc i_f_10 (by decide)
        exact hk_18 o_x1 o_x4 T r_x0 r_x1 i_x2 i_x3 r_x4 i_x5 i_x6 i_x7 i_x8 (rg_m i_v_1q3 (by decide)) gx (by have := hc_18; omega)
      · have _ := c_12
        refine s_gd (by rw [thN T r_x1 (k := 47) (n := 4096) rfl (by decide)]; exact rg_inB (i_f_10 : Rg (0) (4095) (x9)) (by decide)) ?_
        refine s_dI0 (zX8_isRival hF T (thI T r_x1 (k := 47) rfl : Rg (-2147483648) (2147483647) ((hI h x1 x9.toNatClampNeg))) i_x3) (fun o_11 eb_o_11 e_o_11 i_o_11 => ?_)
        have T_15 := th_eq e_o_11 T
        refine s_br (fun c_16 => ?_) (fun c_16 => ?_)
        · have _ := c_16
          have i_f_17 : Rg (0) (0) (o_11.1) := rg_eq c_16 (rg_b rfl : Rg (0) (0) (0 : Int32))
          refine s_q (fun v_1q4 e_18 => ?_)
          have i_v_1q4 : Rg (1) (4096) (v_1q4) := by rw [e_18]; exact (rg_add i_f_10 (rg_b rfl : Rg (1) (1) ((1 : Int32))) (by decide) : Rg (1) (4096) (x9 + (1 : Int32)))
          have m_19 : (v_1q4).toInt = x9.toInt + 1 := by rw [e_18]; exact rg_inc i_f_10 (by decide)
          exact hk_18 o_x1 o_x4 T_15 r_x0 r_x1 i_x2 i_x3 r_x4 i_x5 i_x6 i_x7 i_x8 (rg_m i_v_1q4 (by decide)) gx (by have := hc_18; omega)
        · have _ := c_16
          have i_f_20 : Rg (1) (1) (o_11.1) := rg_nlo c_16 i_o_11 (rg_b rfl : Rg (0) (0) (0 : Int32))
          refine s_br (fun c_21 => ?_) (fun c_21 => ?_)
          · have _ := c_21
            have i_f_22 : Rg (0) (0) (x7) := rg_eq c_21 (rg_b rfl : Rg (0) (0) (0 : Int32))
            obtain ⟨r_14, e_r_14, q_r_14⟩ := thR T_15 r_x0 (k := 9) (i := 0) (k2 := 2) rfl (by decide)
            refine s_ref e_r_14 ?_
            obtain ⟨r_15, e_r_15, q_r_15⟩ := thR T_15 q_r_14 (k := 2) (i := 19) (k2 := 32) rfl (by decide)
            refine s_ref e_r_15 ?_
            refine s_gd (by rw [thN T_15 q_r_15 (k := 32) (n := 64) rfl (by decide)]; exact rg_inB (i_o_8z : Rg (0) (63) (o_8z)) (by decide)) ?_
            refine s_ref e_r_14 ?_
            refine s_ref e_r_15 ?_
            refine s_gd (by rw [thN T_15 q_r_15 (k := 32) (n := 64) rfl (by decide)]; exact rg_inB (i_x5 : Rg (0) (63) (x5)) (by decide)) ?_
            refine s_br (fun c_23 => ?_) (fun c_23 => ?_)
            · have _ := c_23
              exact zX8_writeLeft_87 hF @hk_18 o_x1 o_x4 T_15 r_x0 r_x1 i_x2 i_x3 r_x4 i_x5 (rg_b rfl : Rg (1) (1) ((1 : Int32))) i_x8 i_f_10 i_o_8z (rg_m (rg_b rfl : Rg (1) (1) ((1 : Int32))) (by decide)) hc_18 gx
            · have _ := c_23
              exact zX8_writeLeft_87 hF @hk_18 o_x1 o_x4 T_15 r_x0 r_x1 i_x2 i_x3 r_x4 i_x5 (rg_b rfl : Rg (1) (1) ((1 : Int32))) i_x8 i_f_10 i_o_8z (rg_m (rg_b rfl : Rg (0) (0) ((0 : Int32))) (by decide)) hc_18 gx
          · have _ := c_21
            have i_f_24 : Rg (1) (1) (x7) := rg_nlo c_21 i_x7 (rg_b rfl : Rg (0) (0) (0 : Int32))
            exact zX8_writeLeft_87 hF @hk_18 o_x1 o_x4 T_15 r_x0 r_x1 i_x2 i_x3 r_x4 i_x5 (rg_b rfl : Rg (1) (1) ((1 : Int32))) i_x8 i_f_10 i_o_8z (rg_m (rg_b rfl : Rg (1) (1) ((1 : Int32))) (by decide)) hc_18 gx
set_option maxRecDepth 20000 in
theorem zX8_writeLeft {ρ : Nat → Nat} {c : Cm} {F : Nat} {w_x1 w_x4 : Nat} (hF : 700000 ≤ F) (hO_x4 : pmO c w_x4 [(49, 999), (10, 1)]) {h : Hp} {x0 : Nat} {x1 : Nat} {x2 : Int32} {x3 : Int32} {x4 : Nat} (o_x1 : cw c x1 = w_x1) (o_x4 : cw c x4 = w_x4) (T : TH ρ c h) (r_x0 : ρ x0 = 9) (r_x1 : ρ x1 = 47) (i_x2 : Rg (1) (4096) (x2)) (i_x3 : Rg (-2147483648) (2147483647) (x3)) (r_x4 : ρ x4 = 10) (gx : GMq (c.2.1 50) x3) : Sat (sX8_writeLeft F h x0 x1 x2 x3 x4) (ZV ρ c) := by
  unfold sX8_writeLeft sX5_leftBy
  refine s_pu (fun o_1z e_1 => ?_)
  try dsimp only
  have i_o_1z : Rg (0) (63) (o_1z) := by rw [e_1]; exact (rg_and (rg_b rfl : Rg (63) (63) ((63 : Int32))) (by decide) : Rg (0) (63) ((x3 >>> ((6 : Int32) &&& 31)) &&& (63 : Int32)))
  have m_2 : Rg (0) (4096) ((0 : Int32)) := (rg_m (rg_b rfl : Rg (0) (0) ((0 : Int32))) (by decide))
  exact zX8_writeLeft_18 hF (pmO_s hO_x4 rfl) F o_x1 o_x4 T r_x0 r_x1 i_x2 i_x3 r_x4 i_o_1z (rg_m (rg_b rfl : Rg (0) (0) ((0 : Int32))) (by decide)) (rg_m (rg_b rfl : Rg (0) (0) ((0 : Int32))) (by decide)) (rg_m (rg_b rfl : Rg (0) (0) ((0 : Int32))) (by decide)) (rg_m (rg_b rfl : Rg (0) (0) ((0 : Int32))) (by decide)) gx (by have := m_2.1; have := m_2.2; omega)
set_option maxRecDepth 20000 in
theorem zX9_appendAll_2 {ρ : Nat → Nat} {c : Cm} {F : Nat} {w_x0 : Nat} (hF : 700000 ≤ F) (hO_x0 : pmO c w_x0 [(49, 999), (10, 1)]) : ∀ (f : Nat) {h : Hp} {x0 : Nat} {x1 : Nat} {x2 : Int32}, cw c x0 = w_x0 → TH ρ c h → ρ x0 = 10 → Rg (0) (231) (x2) → (231 - x2.toInt).toNat < f → Sat (sX9_appendAll_2 F f h x0 x1 x2) (ZV ρ c) := by
  intro f
  induction f with
  | zero => intros; omega
  | succ f ih =>
    intro h x0 x1 x2 o_x0 T r_x0 i_x2 hm
    rw [sX9_appendAll_2]
    obtain ⟨C_2, hC_2⟩ : ∃ C : Int, C = x2.toInt := ⟨_, rfl⟩
    have hk_2 : ∀ {h : Hp} {x0 : Nat} {x1 : Nat} {x2 : Int32}, cw c x0 = w_x0 → TH ρ c h → ρ x0 = 10 → Rg (0) (231) (x2) → C_2 < x2.toInt → Sat (sX9_appendAll_2 F f h x0 x1 x2) (ZV ρ c) := by
      intro h' x0' x1' x2' o_x0' T' r_x0' i_x2' hl
      exact ih o_x0' T' r_x0' i_x2' (by have := i_x2'.1; have := i_x2'.2; omega)
    have hc_2 : C_2 ≤ x2.toInt := by omega
    refine s_br (fun c_1 => ?_) (fun c_1 => ?_)
    · have _ := c_1
      exact s_some (T)
    · have _ := c_1
      have i_f_2 : Rg (0) (230) (x2) := rg_lt1 (nle_lt c_1) i_x2 (rg_lB _ : Rg (0) (231) ((nI (lB x1).length)))
      have i_f_3 : Rg (1) (231) ((nI (lB x1).length)) := rg_lt2 (nle_lt c_1) i_x2 (rg_lB _ : Rg (0) (231) ((nI (lB x1).length)))
      refine s_gd (rg_inBl i_f_2 (by decide) (lB_lt2 _) c_1) ?_
      refine s_cV (zX9_append hF (pmO_e o_x0 hO_x0 rfl) T r_x0 (rg_m (rg_schr _ _ : Rg (0) (255) ((schr x1 x2))) (by decide))) (fun o_3 T_4 => ?_)
      refine s_q (fun v_4 e_5 => ?_)
      have i_v_4 : Rg (1) (231) (v_4) := by rw [e_5]; exact (rg_add i_f_2 (rg_b rfl : Rg (1) (1) ((1 : Int32))) (by decide) : Rg (1) (231) (x2 + (1 : Int32)))
      have m_6 : (v_4).toInt = x2.toInt + 1 := by rw [e_5]; exact rg_inc i_f_2 (by decide)
      exact hk_2 o_x0 T_4 r_x0 (rg_m i_v_4 (by decide)) (by have := hc_2; omega)
set_option maxRecDepth 20000 in
theorem zX9_appendAll {ρ : Nat → Nat} {c : Cm} {F : Nat} {w_x0 : Nat} (hF : 700000 ≤ F) (hO_x0 : pmO c w_x0 [(49, 999), (10, 1)]) {h : Hp} {x0 : Nat} {x1 : Nat} (o_x0 : cw c x0 = w_x0) (T : TH ρ c h) (r_x0 : ρ x0 = 10) : Sat (sX9_appendAll F h x0 x1) (ZV ρ c) := by
  unfold sX9_appendAll 
  have m_1 : Rg (0) (231) ((0 : Int32)) := (rg_m (rg_b rfl : Rg (0) (0) ((0 : Int32))) (by decide))
  exact zX9_appendAll_2 hF (pmO_s hO_x0 rfl) F o_x0 T r_x0 (rg_m (rg_b rfl : Rg (0) (0) ((0 : Int32))) (by decide)) (by have := m_1.1; have := m_1.2; omega)
set_option maxRecDepth 20000 in
theorem zX8_writeMove_141 {ρ : Nat → Nat} {c : Cm} {F : Nat} {w_x4 : Nat} (hF : 700000 ≤ F) (hO_x4 : pmO c w_x4 [(49, 999), (10, 1)]) {h : Hp} {x0 : Nat} {x4 : Nat} {x5 : Int32} {x6 : Int32} (o_x4 : cw c x4 = w_x4) (T : TH ρ c h) (r_x0 : ρ x0 = 9) (r_x4 : ρ x4 = 10) (i_x5 : Rg (-2147483648) (2147483647) (x5)) (i_x6 : Rg (0) (63) (x6)) (g5 : (GMq (c.2.1 50) x5)) : Sat (sX8_writeMove_141 F h x0 x4 x5 x6) (ZV ρ c) := by
  unfold sX8_writeMove_141 sX8_writeMove_187
  obtain ⟨r_1, e_r_1, q_r_1⟩ := thR T r_x0 (k := 9) (i := 0) (k2 := 2) rfl (by decide)
  refine s_ref e_r_1 ?_
  refine s_cV (zX7_writeSquare hF (pmO_s hO_x4 rfl) (th_id T r_x0 (k := 9) (i := 0) (w := 2102) e_r_1 rfl (by decide)) o_x4 T q_r_1 i_x6 r_x4) (fun o_2 T_1 => ?_)
  refine s_dI0 (zX5_becomes hF T_1 i_x5 g5) (fun o_3 eb_o_3 e_o_3 i_o_3 => ?_)
  have T_2 := th_eq e_o_3 T_1
  refine s_br (fun c_3 => ?_) (fun c_3 => ?_)
  · have _ := c_3
    have i_f_4 : Rg (-1) (-1) (o_3.1) := rg_eq c_3 (rg_b rfl : Rg (-1) (-1) ((- 1 : Int32)))
    exact s_some (T_2)
  · have _ := c_3
    have i_f_5 : Rg (0) (11) (o_3.1) := rg_nlo c_3 i_o_3 (rg_b rfl : Rg (-1) (-1) ((- 1 : Int32)))
    refine s_cV (zX9_append hF (pmO_e o_x4 hO_x4 rfl) T_2 r_x4 (rg_m (rg_b rfl : Rg (61) (61) ((61 : Int32))) (by decide))) (fun o_5 T_6 => ?_)
    obtain ⟨r_6, e_r_6, q_r_6⟩ := thR T_6 r_x0 (k := 9) (i := 0) (k2 := 2) rfl (by decide)
    refine s_ref e_r_6 ?_
    refine s_dI0 (zX5_becomes hF T_6 i_x5 g5) (fun o_7 eb_o_7 e_o_7 i_o_7 => ?_)
    have T_7 := th_eq e_o_7 T_6
    refine s_dI0 (zX1_letterOf hF T_7 q_r_6 (rg_m (rg_mulc' (rg_b rfl : Rg (2) (2) ((2 : Int32))) i_o_7 (by decide) : Rg (-2) (22) (((2 : Int32) * o_7.1))) (by decide))) (fun o_8 eb_o_8 e_o_8 i_o_8 => ?_)
    have T_8 := th_eq e_o_8 T_7
    refine s_cV (zX9_append hF (pmO_e o_x4 hO_x4 rfl) T_8 r_x4 (rg_m i_o_8 (by decide))) (fun o_9 T_9 => ?_)
    exact s_some (T_9)
set_option maxRecDepth 20000 in
theorem zX8_writeMove_125 {ρ : Nat → Nat} {c : Cm} {F : Nat} {w_x4 : Nat} (hF : 700000 ≤ F) (hO_x4 : pmO c w_x4 [(49, 999), (10, 1)]) {h : Hp} {x0 : Nat} {x4 : Nat} {x5 : Int32} {x6 : Int32} (o_x4 : cw c x4 = w_x4) (T : TH ρ c h) (r_x0 : ρ x0 = 9) (r_x4 : ρ x4 = 10) (i_x5 : Rg (-2147483648) (2147483647) (x5)) (i_x6 : Rg (0) (63) (x6)) (g5 : (GMq (c.2.1 50) x5)) : Sat (sX8_writeMove_125 F h x0 x4 x5 x6) (ZV ρ c) := by
  unfold sX8_writeMove_125 
  refine s_dI0 (zX5_takenBy hF T i_x5 g5) (fun o_1 eb_o_1 e_o_1 i_o_1 => ?_)
  have T_1 := th_eq e_o_1 T
  refine s_br (fun c_2 => ?_) (fun c_2 => ?_)
  · have _ := c_2
    have i_f_3 : Rg (-1) (-1) (o_1.1) := rg_eq c_2 (rg_b rfl : Rg (-1) (-1) ((- 1 : Int32)))
    exact zX8_writeMove_141 hF (pmO_s hO_x4 rfl) o_x4 T_1 r_x0 r_x4 i_x5 i_x6 g5
  · have _ := c_2
    have i_f_4 : Rg (0) (11) (o_1.1) := rg_nlo c_2 i_o_1 (rg_b rfl : Rg (-1) (-1) ((- 1 : Int32)))
    refine s_cV (zX9_append hF (pmO_e o_x4 hO_x4 rfl) T_1 r_x4 (rg_m (rg_b rfl : Rg (120) (120) ((120 : Int32))) (by decide))) (fun o_3 T_5 => ?_)
    exact zX8_writeMove_141 hF (pmO_s hO_x4 rfl) o_x4 T_5 r_x0 r_x4 i_x5 i_x6 g5
set_option maxRecDepth 20000 in
theorem zX8_writeMove {ρ : Nat → Nat} {c : Cm} {F : Nat} {w_x1 w_x4 : Nat} (hF : 700000 ≤ F) (hO_x4 : pmO c w_x4 [(49, 999), (10, 1)]) {h : Hp} {x0 : Nat} {x1 : Nat} {x2 : Int32} {x3 : Int32} {x4 : Nat} (o_x1 : cw c x1 = w_x1) (o_x4 : cw c x4 = w_x4) (T : TH ρ c h) (r_x0 : ρ x0 = 9) (r_x1 : ρ x1 = 47) (i_x2 : Rg (1) (4096) (x2)) (i_x3 : Rg (0) (4095) (x3)) (r_x4 : ρ x4 = 10) : Sat (sX8_writeMove F h x0 x1 x2 x3 x4) (ZV ρ c) := by
  unfold sX8_writeMove sX5_comeTo sX5_kindOf sX5_leftBy sX8_writeMove_44 sX5_manOf sX8_writeMove_115
  refine s_gd (by rw [thN T r_x1 (k := 47) (n := 4096) rfl (by decide)]; exact rg_inB (i_x3 : Rg (0) (4095) (x3)) (by decide)) ?_
  refine s_q (fun v_2 e_1 => ?_)
  have i_v_2 : Rg (-2147483648) (2147483647) (v_2) := by rw [e_1]; exact (thI T r_x1 (k := 47) rfl : Rg (-2147483648) (2147483647) (hI h x1 x3.toNatClampNeg))
  refine s_pu (fun o_3z e_2 => ?_)
  try dsimp only
  have i_o_3z : Rg (0) (63) (o_3z) := by rw [e_2]; exact (rg_and (rg_b rfl : Rg (63) (63) ((63 : Int32))) (by decide) : Rg (0) (63) (v_2 &&& (63 : Int32)))
  refine s_pu (fun o_4z e_3 => ?_)
  try dsimp only
  have i_o_4z : Rg (0) (3) (o_4z) := by rw [e_3]; exact (rg_and (rg_b rfl : Rg (3) (3) ((3 : Int32))) (by decide) : Rg (0) (3) ((v_2 >>> ((24 : Int32) &&& 31)) &&& (3 : Int32)))
  refine s_br (fun c_4 => ?_) (fun c_4 => ?_)
  · have _ := c_4
    have i_f_5 : Rg (2) (2) (o_4z) := rg_eq c_4 (rg_b rfl : Rg (2) (2) ((2 : Int32)))
    refine s_pu (fun o_17z e_6 => ?_)
    try dsimp only
    have i_o_17z : Rg (0) (63) (o_17z) := by rw [e_6]; exact (rg_and (rg_b rfl : Rg (63) (63) ((63 : Int32))) (by decide) : Rg (0) (63) ((v_2 >>> ((6 : Int32) &&& 31)) &&& (63 : Int32)))
    refine s_br (fun c_7 => ?_) (fun c_7 => ?_)
    · have _ := c_7
      refine s_cV (zX9_appendAll hF (pmO_s hO_x4 rfl) o_x4 T r_x4) (fun o_1q1 T_8 => ?_)
      exact s_some (T_8)
    · have _ := c_7
      have i_f_9 : Rg (0) (62) (o_17z) := rg_lt1 (nle_lt c_7) i_o_17z i_o_3z
      have i_f_10 : Rg (1) (63) (o_3z) := rg_lt2 (nle_lt c_7) i_o_17z i_o_3z
      refine s_cV (zX9_appendAll hF (pmO_s hO_x4 rfl) o_x4 T r_x4) (fun o_1q2 T_11 => ?_)
      exact s_some (T_11)
  · have _ := c_4
    refine s_pu (fun o_6z e_12 => ?_)
    try dsimp only
    have i_o_6z : Rg (0) (11) (o_6z) := by rw [e_12]; exact (gq_man (by rw [e_1]; exact (thG T r_x1)) : Rg (0) (11) ((v_2 >>> ((12 : Int32) &&& 31)) &&& (15 : Int32)))
    refine s_br (fun c_13 => ?_) (fun c_13 => ?_)
    · have _ := c_13
      have i_f_14 : Rg (3) (3) (o_4z) := rg_eq c_13 (rg_b rfl : Rg (3) (3) ((3 : Int32)))
      obtain ⟨r_13, e_r_13, q_r_13⟩ := thR T r_x0 (k := 9) (i := 0) (k2 := 2) rfl (by decide)
      refine s_ref e_r_13 ?_
      refine s_dI0 (zX1_letterOf hF T q_r_13 (rg_m (rg_mulc' (rg_b rfl : Rg (2) (2) ((2 : Int32))) i_o_6z (by decide) : Rg (0) (22) (((2 : Int32) * o_6z))) (by decide))) (fun o_14 eb_o_14 e_o_14 i_o_14 => ?_)
      have T_15 := th_eq e_o_14 T
      refine s_cV (zX9_append hF (pmO_e o_x4 hO_x4 rfl) T_15 r_x4 (rg_m i_o_14 (by decide))) (fun o_15 T_16 => ?_)
      refine s_cV (zX9_append hF (pmO_e o_x4 hO_x4 rfl) T_16 r_x4 (rg_m (rg_b rfl : Rg (64) (64) ((64 : Int32))) (by decide))) (fun o_16 T_17 => ?_)
      exact zX8_writeMove_125 hF (pmO_s hO_x4 rfl) o_x4 T_17 r_x0 r_x4 i_v_2 i_o_3z (by rw [e_1]; exact (thG T r_x1))
    · have _ := c_13
      have i_f_18 : Rg (0) (2) (o_4z) := rg_nhi c_13 i_o_4z (rg_b rfl : Rg (3) (3) ((3 : Int32)))
      obtain ⟨r_8, e_r_8, q_r_8⟩ := thR T r_x0 (k := 9) (i := 0) (k2 := 2) rfl (by decide)
      refine s_ref e_r_8 ?_
      refine s_br (fun c_19 => ?_) (fun c_19 => ?_)
      · have _ := c_19
        have i_f_20 : Rg (0) (11) ((hI h r_8 5)) := rg_eq c_19.symm i_o_6z
        refine s_cV (zX8_writeLeft hF (pmO_s hO_x4 rfl) o_x1 o_x4 T r_x0 r_x1 i_x2 i_v_2 r_x4 (by rw [e_1]; exact (thG T r_x1))) (fun o_1q3 T_21 => ?_)
        exact zX8_writeMove_125 hF (pmO_s hO_x4 rfl) o_x4 T_21 r_x0 r_x4 i_v_2 i_o_3z (by rw [e_1]; exact (thG T r_x1))
      · have _ := c_19
        refine s_ref e_r_8 ?_
        refine s_dI0 (zX1_letterOf hF T q_r_8 (rg_m (rg_mulc' (rg_b rfl : Rg (2) (2) ((2 : Int32))) i_o_6z (by decide) : Rg (0) (22) (((2 : Int32) * o_6z))) (by decide))) (fun o_11 eb_o_11 e_o_11 i_o_11 => ?_)
        have T_22 := th_eq e_o_11 T
        refine s_cV (zX9_append hF (pmO_e o_x4 hO_x4 rfl) T_22 r_x4 (rg_m i_o_11 (by decide))) (fun o_12 T_23 => ?_)
        refine s_cV (zX8_writeLeft hF (pmO_s hO_x4 rfl) o_x1 o_x4 T_23 r_x0 r_x1 i_x2 i_v_2 r_x4 (by rw [e_1]; exact (thG T r_x1))) (fun o_1q4 T_24 => ?_)
        exact zX8_writeMove_125 hF (pmO_s hO_x4 rfl) o_x4 T_24 r_x0 r_x4 i_v_2 i_o_3z (by rw [e_1]; exact (thG T r_x1))
set_option maxRecDepth 20000 in
theorem zX8_find_3 {ρ : Nat → Nat} {c : Cm} {F : Nat} {w_x1 w_x3 : Nat} (hF : 700000 ≤ F) (hi_1803 : pmO c 1803 [(49, 999), (10, 1)]) : ∀ (f : Nat) {h : Hp} {x0 : Nat} {x1 : Nat} {x2 : Int32} {x3 : Nat} {x4 : Int32}, cw c x1 = w_x1 → cw c x3 = w_x3 → TH ρ c h → ρ x0 = 9 → ρ x1 = 47 → Rg (0) (4096) (x2) → ρ x3 = 10 → Rg (0) (4096) (x4) → (4096 - x4.toInt).toNat < f → Sat (sX8_find_3 F f h x0 x1 x2 x3 x4) (ZI ρ c (-1) (4095)) := by
  intro f
  induction f with
  | zero => intros; omega
  | succ f ih =>
    intro h x0 x1 x2 x3 x4 o_x1 o_x3 T r_x0 r_x1 i_x2 r_x3 i_x4 hm
    rw [sX8_find_3]
    unfold sX8_find_53 sX8_find_64
    obtain ⟨C_3, hC_3⟩ : ∃ C : Int, C = x4.toInt := ⟨_, rfl⟩
    have hk_3 : ∀ {h : Hp} {x0 : Nat} {x1 : Nat} {x2 : Int32} {x3 : Nat} {x4 : Int32}, cw c x1 = w_x1 → cw c x3 = w_x3 → TH ρ c h → ρ x0 = 9 → ρ x1 = 47 → Rg (0) (4096) (x2) → ρ x3 = 10 → Rg (0) (4096) (x4) → C_3 < x4.toInt → Sat (sX8_find_3 F f h x0 x1 x2 x3 x4) (ZI ρ c (-1) (4095)) := by
      intro h' x0' x1' x2' x3' x4' o_x1' o_x3' T' r_x0' r_x1' i_x2' r_x3' i_x4' hl
      exact ih o_x1' o_x3' T' r_x0' r_x1' i_x2' r_x3' i_x4' (by have := i_x4'.1; have := i_x4'.2; omega)
    have hc_3 : C_3 ≤ x4.toInt := by omega
    refine s_br (fun c_1 => ?_) (fun c_1 => ?_)
    · have _ := c_1
      exact s_some ⟨(T), (rg_m (rg_b rfl : Rg (-1) (-1) ((- 1 : Int32))) (by decide))⟩
    · have _ := c_1
      have i_f_2 : Rg (0) (4095) (x4) := rg_lt1 (nle_lt c_1) i_x4 i_x2
      have i_f_3 : Rg (1) (4096) (x2) := rg_lt2 (nle_lt c_1) i_x4 i_x2
      obtain ⟨r_2, e_r_2, q_r_2⟩ := thR T r_x0 (k := 9) (i := 3) (k2 := 10) rfl (by decide)
      refine s_ref e_r_2 ?_
      refine s_cV (zX9_clear hF (pmO_e (th_id T r_x0 (k := 9) (i := 3) (w := 1803) e_r_2 rfl (by decide)) hi_1803 rfl) T q_r_2) (fun o_3 T_4 => ?_)
      obtain ⟨r_4, e_r_4, q_r_4⟩ := thR T_4 r_x0 (k := 9) (i := 3) (k2 := 10) rfl (by decide)
      refine s_ref e_r_4 ?_
      refine s_cV (zX8_writeMove hF (pmO_s hi_1803 rfl) o_x1 (th_id T_4 r_x0 (k := 9) (i := 3) (w := 1803) e_r_4 rfl (by decide)) T_4 r_x0 r_x1 i_f_3 i_f_2 q_r_4) (fun o_5 T_5 => ?_)
      obtain ⟨r_6, e_r_6, q_r_6⟩ := thR T_5 r_x0 (k := 9) (i := 3) (k2 := 10) rfl (by decide)
      refine s_ref e_r_6 ?_
      refine s_q (fun v_7 e_6 => ?_)
      have i_v_7 : Rg (-1200) (1200) (v_7) := by rw [e_6]; exact (rg_sub (thI T_5 r_x3 (k := 10) (i := 1) rfl : Rg (0) (1200) ((hI o_5 x3 1))) (thI T_5 q_r_6 (k := 10) (i := 1) rfl : Rg (0) (1200) ((hI o_5 r_6 1))) (by decide) : Rg (-1200) (1200) ((hI o_5 x3 1) - (hI o_5 r_6 1)))
      refine s_br (fun c_7 => ?_) (fun c_7 => ?_)
      · have _ := c_7
        have i_f_8 : Rg (0) (0) (v_7) := rg_eq c_7 (rg_b rfl : Rg (0) (0) (0 : Int32))
        refine s_dI0 (zX8_begins hF T_5 r_x0 r_x3) (fun o_1q1 eb_o_1q1 e_o_1q1 i_o_1q1 => ?_)
        have T_9 := th_eq e_o_1q1 T_5
        refine s_br (fun c_10 => ?_) (fun c_10 => ?_)
        · have _ := c_10
          have i_f_11 : Rg (0) (0) (o_1q1.1) := rg_eq c_10 (rg_b rfl : Rg (0) (0) (0 : Int32))
          refine s_q (fun v_1q2 e_12 => ?_)
          have i_v_1q2 : Rg (1) (4096) (v_1q2) := by rw [e_12]; exact (rg_add i_f_2 (rg_b rfl : Rg (1) (1) ((1 : Int32))) (by decide) : Rg (1) (4096) (x4 + (1 : Int32)))
          have m_13 : (v_1q2).toInt = x4.toInt + 1 := by rw [e_12]; exact rg_inc i_f_2 (by decide)
          exact hk_3 o_x1 o_x3 T_9 r_x0 r_x1 (rg_m i_f_3 (by decide)) r_x3 (rg_m i_v_1q2 (by decide)) (by have := hc_3; omega)
        · have _ := c_10
          have i_f_14 : Rg (1) (1) (o_1q1.1) := rg_nlo c_10 i_o_1q1 (rg_b rfl : Rg (0) (0) (0 : Int32))
          exact s_some ⟨(T_9), (rg_m i_f_2 (by decide))⟩
      · have _ := c_7
        refine s_br (fun c_15 => ?_) (fun c_15 => ?_)
        · have _ := c_15
          have i_f_16 : Rg (1) (1) (v_7) := rg_eq c_15 (rg_b rfl : Rg (1) (1) ((1 : Int32)))
          refine s_dI0 (zX8_begins hF T_5 r_x0 r_x3) (fun o_1q3 eb_o_1q3 e_o_1q3 i_o_1q3 => ?_)
          have T_17 := th_eq e_o_1q3 T_5
          refine s_br (fun c_18 => ?_) (fun c_18 => ?_)
          · have _ := c_18
            have i_f_19 : Rg (0) (0) (o_1q3.1) := rg_eq c_18 (rg_b rfl : Rg (0) (0) (0 : Int32))
            refine s_q (fun v_1q4 e_20 => ?_)
            have i_v_1q4 : Rg (1) (4096) (v_1q4) := by rw [e_20]; exact (rg_add i_f_2 (rg_b rfl : Rg (1) (1) ((1 : Int32))) (by decide) : Rg (1) (4096) (x4 + (1 : Int32)))
            have m_21 : (v_1q4).toInt = x4.toInt + 1 := by rw [e_20]; exact rg_inc i_f_2 (by decide)
            exact hk_3 o_x1 o_x3 T_17 r_x0 r_x1 (rg_m i_f_3 (by decide)) r_x3 (rg_m i_v_1q4 (by decide)) (by have := hc_3; omega)
          · have _ := c_18
            have i_f_22 : Rg (1) (1) (o_1q3.1) := rg_nlo c_18 i_o_1q3 (rg_b rfl : Rg (0) (0) (0 : Int32))
            exact s_some ⟨(T_17), (rg_m i_f_2 (by decide))⟩
        · have _ := c_15
          refine s_q (fun v_1q5 e_23 => ?_)
          have i_v_1q5 : Rg (1) (4096) (v_1q5) := by rw [e_23]; exact (rg_add i_f_2 (rg_b rfl : Rg (1) (1) ((1 : Int32))) (by decide) : Rg (1) (4096) (x4 + (1 : Int32)))
          have m_24 : (v_1q5).toInt = x4.toInt + 1 := by rw [e_23]; exact rg_inc i_f_2 (by decide)
          exact hk_3 o_x1 o_x3 T_5 r_x0 r_x1 (rg_m i_f_3 (by decide)) r_x3 (rg_m i_v_1q5 (by decide)) (by have := hc_3; omega)
set_option maxRecDepth 20000 in
theorem zX8_find {ρ : Nat → Nat} {c : Cm} {F : Nat} {w_x1 w_x3 : Nat} (hF : 700000 ≤ F) (hi_1803 : pmO c 1803 [(49, 999), (10, 1)]) {h : Hp} {x0 : Nat} {x1 : Nat} {x2 : Int32} {x3 : Nat} (o_x1 : cw c x1 = w_x1) (o_x3 : cw c x3 = w_x3) (T : TH ρ c h) (r_x0 : ρ x0 = 9) (r_x1 : ρ x1 = 47) (i_x2 : Rg (0) (4096) (x2)) (r_x3 : ρ x3 = 10) : Sat (sX8_find F h x0 x1 x2 x3) (ZI ρ c (-1) (4095)) := by
  unfold sX8_find 
  have m_1 : Rg (0) (4096) ((0 : Int32)) := (rg_m (rg_b rfl : Rg (0) (0) ((0 : Int32))) (by decide))
  exact zX8_find_3 hF (pmO_s hi_1803 rfl) F o_x1 o_x3 T r_x0 r_x1 i_x2 r_x3 (rg_m (rg_b rfl : Rg (0) (0) ((0 : Int32))) (by decide)) (by have := m_1.1; have := m_1.2; omega)
set_option maxRecDepth 20000 in
theorem zX8_isWhole {ρ : Nat → Nat} {c : Cm} {F : Nat} (hF : 700000 ≤ F) {h : Hp} {x0 : Nat} {x1 : Nat} (T : TH ρ c h) (r_x0 : ρ x0 = 9) (r_x1 : ρ x1 = 10) : Sat (sX8_isWhole h x0 x1) (ZI0 h (0) (1)) := by
  unfold sX8_isWhole sX8_isWhole_19
  obtain ⟨r_1, e_r_1, q_r_1⟩ := thR T r_x0 (k := 9) (i := 3) (k2 := 10) rfl (by decide)
  refine s_ref e_r_1 ?_
  refine s_br (fun c_1 => ?_) (fun c_1 => ?_)
  · have _ := c_1
    refine s_gd (rg_bool (rg_m (rg_b rfl : Rg (1) (1) ((1 : Int32))) (by decide))) ?_
    exact s_some ⟨rfl, (rg_m (rg_b rfl : Rg (1) (1) ((1 : Int32))) (by decide))⟩
  · have _ := c_1
    refine s_gd (rg_bool (rg_m (rg_b rfl : Rg (0) (0) ((0 : Int32))) (by decide))) ?_
    exact s_some ⟨rfl, (rg_m (rg_b rfl : Rg (0) (0) ((0 : Int32))) (by decide))⟩
set_option maxRecDepth 20000 in
theorem zX8_markOf {ρ : Nat → Nat} {c : Cm} {F : Nat} {w_x1 : Nat} (hF : 700000 ≤ F) (hA : pmA c [(47, 999), (6, 4), (6, 5), (6, 6), (6, 7), (6, 8), (6, 9)]) (hi_1503 : pmO c 1503 [(34, 999), (35, 999), (36, 999), (37, 999), (38, 999), (4, 5), (4, 6), (4, 7), (4, 8), (4, 9), (4, 10)]) (hi_1802 : pmO c 1802 [(34, 999), (35, 999), (36, 999), (37, 999), (38, 999), (4, 5), (4, 6), (4, 7), (4, 8), (4, 9), (4, 10)]) {h : Hp} {x0 : Nat} {x1 : Nat} {x2 : Int32} (o_x1 : cw c x1 = w_x1) (T : TH ρ c h) (r_x0 : ρ x0 = 9) (r_x1 : ρ x1 = 4) (i_x2 : Rg (-2147483648) (2147483647) (x2)) (lw : (LwR ρ c h)) (gx : GMq (c.2.1 50) x2) (rt : (RyP ρ c x1 h)) : Sat (sX8_markOf F h x0 x1 x2) (ZI ρ c (-1) (43)) := by
  unfold sX8_markOf sX8_markOf_81
  obtain ⟨r_1, e_r_1, q_r_1⟩ := thR T r_x0 (k := 9) (i := 2) (k2 := 4) rfl (by decide)
  refine s_ref e_r_1 ?_
  refine s_cVfq (S := fS [] [(1802, [(34, 999), (35, 999), (36, 999), (37, 999), (38, 999), (4, 5), (4, 6), (4, 8), (4, 9), (4, 10)])]) T (fs_sub pmA_n (fs_c (pmO_s hi_1802 rfl) fs_n)) (s_weq (zX3_copyFrom hF (pmO_e (th_id T r_x0 (k := 9) (i := 2) (w := 1802) e_r_1 rfl (by decide)) (fs_o (.head _)) rfl) (th_in _ T) q_r_1 r_x1)) (fun o_2 T_1 f_o_2 p_o_2 => ?_)
  have eb_o_2 := p_o_2
  obtain ⟨r_3, e_r_3, q_r_3⟩ := thR T_1 r_x0 (k := 9) (i := 1) (k2 := 6) rfl (by decide)
  refine s_ref e_r_3 ?_
  refine s_ref (hr_q (fr_R f_o_2 r_x0 (by decide) rfl rfl) e_r_1) ?_
  refine s_cVfq (S := fS [] [(1802, [(34, 999), (35, 999), (36, 999), (37, 999), (38, 999), (4, 5), (4, 6), (4, 7), (4, 8), (4, 9), (4, 10)])]) T_1 (fs_sub pmA_n (fs_c (pmO_s hi_1802 rfl) fs_n)) (zX5_make hF (fs_o (.head _)) (th_id T r_x0 (k := 9) (i := 2) (w := 1802) e_r_1 rfl (by decide)) (th_in _ T_1) q_r_3 q_r_1 i_x2 gx) (fun o_5 T_2 f_o_5 p_o_5 => ?_)
  refine s_ref (hr_q (fr_R f_o_5 r_x0 (by decide) rfl rfl) e_r_3) ?_
  refine s_ref (hr_q (fr_R f_o_5 r_x0 (by decide) rfl rfl) (hr_q (fr_R f_o_2 r_x0 (by decide) rfl rfl) e_r_1)) ?_
  have pf_3 : LwR ρ c o_5 := (lw_fr T_1  f_o_5 (fun _ => rfl) (fun _ => rfl) (fun _ => rfl) (lw_fr T  f_o_2 (fun _ => rfl) (fun _ => rfl) (fun _ => rfl) lw))
  have pf_4 : RyP ρ c r_1 o_5 := ((show RyC ρ c o_2 o_5 from p_o_5) _ q_r_1 (ry_copy T q_r_1 r_x1 eb_o_2 rt))
  refine s_cIf (S := fS [(47, 999), (6, 4), (6, 5), (6, 6), (6, 7), (6, 8), (6, 9)] [(1503, [(34, 999), (35, 999), (36, 999), (37, 999), (38, 999), (4, 5), (4, 6), (4, 7), (4, 8), (4, 9), (4, 10)])]) T_2 (fs_sub (pmA_s hA rfl) (fs_c (pmO_s hi_1503 rfl) fs_n)) (zX5_endOf hF fs_a (fs_o (.head _)) (th_id T r_x0 (k := 9) (i := 2) (w := 1802) e_r_1 rfl (by decide)) (by decide) (th_in _ T_2) q_r_3 q_r_1 pf_3 pf_4) (fun o_8 T_5 i_o_8 f_o_8 => ?_)
  refine s_ref (hr_q (fr_R f_o_8 r_x0 (by decide) rfl rfl) (hr_q (fr_R f_o_5 r_x0 (by decide) rfl rfl) e_r_3)) ?_
  refine s_ref (hr_q (fr_R f_o_8 r_x0 (by decide) rfl rfl) (hr_q (fr_R f_o_5 r_x0 (by decide) rfl rfl) (hr_q (fr_R f_o_2 r_x0 (by decide) rfl rfl) e_r_1))) ?_
  refine s_dI0 (zX5_winnerOf hF T_5 q_r_3 q_r_1 i_o_8) (fun o_11 eb_o_11 e_o_11 i_o_11 => ?_)
  have T_6 := th_eq e_o_11 T_5
  refine s_br (fun c_7 => ?_) (fun c_7 => ?_)
  · have _ := c_7
    have i_f_8 : Rg (0) (1) (o_11.1) := rg_eq c_7 (thI T_6 r_x1 (k := 4) (i := 5) rfl : Rg (0) (1) ((hI o_11.2 x1 5)))
    exact s_some ⟨(T_6), (rg_m (rg_b rfl : Rg (35) (35) ((35 : Int32))) (by decide))⟩
  · have _ := c_7
    refine s_ref (hr_e e_o_11 (hr_q (fr_R f_o_8 r_x0 (by decide) rfl rfl) (hr_q (fr_R f_o_5 r_x0 (by decide) rfl rfl) e_r_3))) ?_
    refine s_ref (hr_e e_o_11 (hr_q (fr_R f_o_8 r_x0 (by decide) rfl rfl) (hr_q (fr_R f_o_5 r_x0 (by decide) rfl rfl) (hr_q (fr_R f_o_2 r_x0 (by decide) rfl rfl) e_r_1)))) ?_
    refine s_ref (hr_e e_o_11 (hr_q (fr_R f_o_8 r_x0 (by decide) rfl rfl) (hr_q (fr_R f_o_5 r_x0 (by decide) rfl rfl) (hr_q (fr_R f_o_2 r_x0 (by decide) rfl rfl) e_r_1)))) ?_
    refine s_dI0 (zX5_isRoyalHit hF T_6 q_r_3 q_r_1 (thI T_6 q_r_1 (k := 4) (i := 5) rfl : Rg (0) (1) ((hI o_11.2 r_1 5)))) (fun o_16 eb_o_16 e_o_16 i_o_16 => ?_)
    have T_9 := th_eq e_o_16 T_6
    refine s_br (fun c_10 => ?_) (fun c_10 => ?_)
    · have _ := c_10
      have i_f_11 : Rg (0) (0) (o_16.1) := rg_eq c_10 (rg_b rfl : Rg (0) (0) (0 : Int32))
      exact s_some ⟨(T_9), (rg_m (rg_b rfl : Rg (-1) (-1) ((- 1 : Int32))) (by decide))⟩
    · have _ := c_10
      have i_f_12 : Rg (1) (1) (o_16.1) := rg_nlo c_10 i_o_16 (rg_b rfl : Rg (0) (0) (0 : Int32))
      exact s_some ⟨(T_9), (rg_m (rg_b rfl : Rg (43) (43) ((43 : Int32))) (by decide))⟩
set_option maxRecDepth 20000 in
theorem zX11_hear {ρ : Nat → Nat} {c : Cm} {F : Nat} (hF : 700000 ≤ F) (hA : pmA c [(47, 999), (6, 4), (6, 5), (6, 6), (6, 7), (6, 8), (6, 9)]) (hi_1503 : pmO c 1503 [(34, 999), (35, 999), (36, 999), (37, 999), (38, 999), (4, 5), (4, 6), (4, 7), (4, 8), (4, 9), (4, 10)]) (hi_1802 : pmO c 1802 [(34, 999), (35, 999), (36, 999), (37, 999), (38, 999), (4, 5), (4, 6), (4, 7), (4, 8), (4, 9), (4, 10)]) (hi_1803 : pmO c 1803 [(49, 999), (10, 1)]) (hi_2100 : pmO c 2100 [(10, 1)]) {h : Hp} {x0 : Nat} {x1 : Int32} (T : TH ρ c h) (r_x0 : ρ x0 = 12) (i_x1 : Rg (-2147483648) (2147483647) (x1)) (lw : (LwR ρ c h)) (pl : (PlP ρ c x0 h)) : Sat (sX11_hear F h x0 x1) (ZI ρ c (-102) (4095)) := by
  unfold sX11_hear sX11_hear_105 sX11_hear_94 sX11_hear_104
  refine s_dP0 (zX11_isPlace hF T r_x0 i_x1) (fun o_1 eb_o_1 e_o_1 i_o_1 p_o_1 => ?_)
  have T_1 := th_eq e_o_1 T
  refine s_br (fun c_2 => ?_) (fun c_2 => ?_)
  · have _ := c_2
    have i_f_3 : Rg (0) (0) (o_1.1) := rg_eq c_2 (rg_b rfl : Rg (0) (0) (0 : Int32))
    obtain ⟨r_1q1, e_r_1q1, q_r_1q1⟩ := thR T_1 r_x0 (k := 12) (i := 0) (k2 := 10) rfl (by decide)
    refine s_ref e_r_1q1 ?_
    refine s_cV (zX9_clear hF (pmO_e (th_id T_1 r_x0 (k := 12) (i := 0) (w := 2100) e_r_1q1 rfl (by decide)) hi_2100 rfl) T_1 q_r_1q1) (fun o_2q1 T_4 => ?_)
    exact s_some ⟨(T_4), (rg_m (rg_b rfl : Rg (-102) (-102) ((- 102 : Int32))) (by decide))⟩
  · have _ := c_2
    have i_f_5 : Rg (1) (1) (o_1.1) := rg_nlo c_2 i_o_1 (rg_b rfl : Rg (0) (0) (0 : Int32))
    have p_f_6 := p_o_1 c_2
    obtain ⟨r_3, e_r_3, q_r_3⟩ := thR T_1 r_x0 (k := 12) (i := 8) (k2 := 9) rfl (by decide)
    refine s_ref e_r_3 ?_
    obtain ⟨r_4, e_r_4, q_r_4⟩ := thR T_1 r_x0 (k := 12) (i := 12) (k2 := 47) rfl (by decide)
    refine s_ref e_r_4 ?_
    have pf_7 : LwR ρ c o_1.2 := (by rw [e_o_1]; exact lw)
    have pf_8 : PlP ρ c x0 o_1.2 := (by rw [e_o_1]; exact pl)
    refine s_cIfq (S := fS [(47, 999), (6, 4), (6, 5), (6, 6), (6, 7), (6, 8), (6, 9)] [(1503, [(34, 999), (35, 999), (36, 999), (37, 999), (38, 999), (4, 5), (4, 6), (4, 7), (4, 8), (4, 9), (4, 10)])]) T_1 (fs_sub (pmA_s hA rfl) (fs_c (pmO_s hi_1503 rfl) fs_n)) (zX11_listMoves hF fs_a (fs_o (.head _)) (th_in _ T_1) r_x0 (rg_m p_f_6 (by decide)) pf_7 pf_8) (fun o_5 T_9 i_o_5 f_o_5 p_o_5 => ?_)
    have pq_o_5_0 : o_5.1.toInt = 0 ∨ (0 ≤ (x1).toInt ∧ (x1).toInt ≤ 59) := p_o_5.1
    obtain ⟨r_6, e_r_6, q_r_6⟩ := thR T_9 r_x0 (k := 12) (i := 0) (k2 := 10) rfl (by decide)
    refine s_ref e_r_6 ?_
    refine s_cIf (S := fS [] [(1803, [(49, 999), (10, 1)])]) T_9 (fs_sub pmA_n (fs_c (pmO_s hi_1803 rfl) fs_n)) (zX8_find hF (fs_o (.head _)) (th_id T_1 r_x0 (k := 12) (i := 12) (w := 2112) e_r_4 rfl (by decide)) (th_id T_9 r_x0 (k := 12) (i := 0) (w := 2100) e_r_6 rfl (by decide)) (th_in _ T_9) q_r_3 q_r_4 i_o_5 q_r_6) (fun o_7 T_10 i_o_7 f_o_7 => ?_)
    refine s_br (fun c_11 => ?_) (fun c_11 => ?_)
    · have _ := c_11
      have i_f_12 : Rg (-1) (-1) (o_7.1) := rg_eq c_11 (rg_b rfl : Rg (-1) (-1) ((- 1 : Int32)))
      refine s_ref (hr_q (fr_R f_o_7 r_x0 (by decide) rfl rfl) e_r_6) ?_
      refine s_cV (zX9_clear hF (pmO_e (th_id T_9 r_x0 (k := 12) (i := 0) (w := 2100) e_r_6 rfl (by decide)) hi_2100 rfl) T_10 q_r_6) (fun o_2q2 T_13 => ?_)
      exact s_some ⟨(T_13), (rg_m i_f_12 (by decide))⟩
    · have _ := c_11
      have i_f_14 : Rg (0) (4095) (o_7.1) := rg_nlo c_11 i_o_7 (rg_b rfl : Rg (-1) (-1) ((- 1 : Int32)))
      refine s_ref (hr_q (fr_R f_o_7 r_x0 (by decide) rfl rfl) (hr_q (fr_R f_o_5 r_x0 (by decide) rfl rfl) e_r_3)) ?_
      refine s_ref (hr_q (fr_R f_o_7 r_x0 (by decide) rfl rfl) e_r_6) ?_
      refine s_dI0 (zX8_isWhole hF T_10 q_r_3 q_r_6) (fun o_11 eb_o_11 e_o_11 i_o_11 => ?_)
      have T_15 := th_eq e_o_11 T_10
      refine s_br (fun c_16 => ?_) (fun c_16 => ?_)
      · have _ := c_16
        have i_f_17 : Rg (0) (0) (o_11.1) := rg_eq c_16 (rg_b rfl : Rg (0) (0) (0 : Int32))
        refine s_ref (hr_e e_o_11 (hr_q (fr_R f_o_7 r_x0 (by decide) rfl rfl) e_r_6)) ?_
        refine s_ref (hr_e e_o_11 (hr_q (fr_R f_o_7 r_x0 (by decide) rfl rfl) e_r_6)) ?_
        refine s_dP0 (zX9_byteAt hF T_15 q_r_6 (rg_m (rg_sub (thI T_15 q_r_6 (k := 10) (i := 1) rfl : Rg (0) (1200) ((hI o_11.2 r_6 1))) (rg_b rfl : Rg (1) (1) ((1 : Int32))) (by decide) : Rg (-1) (1199) (((hI o_11.2 r_6 1) - (1 : Int32)))) (by decide))) (fun o_15 eb_o_15 e_o_15 i_o_15 p_o_15 => ?_)
        have T_18 := th_eq e_o_15 T_15
        refine s_ref (hr_e e_o_15 (hr_e e_o_11 (hr_q (fr_R f_o_7 r_x0 (by decide) rfl rfl) (hr_q (fr_R f_o_5 r_x0 (by decide) rfl rfl) e_r_3)))) ?_
        obtain ⟨r_17, e_r_17, q_r_17⟩ := thR T_18 r_x0 (k := 12) (i := 13) (k2 := 57) rfl (by decide)
        refine s_ref e_r_17 ?_
        refine s_gd (by rw [thN T_18 q_r_17 (k := 57) (n := 60) rfl (by decide)]; exact rg_inB (p_f_6 : Rg (0) (59) (x1)) (by decide)) ?_
        obtain ⟨r_19, e_r_19, q_r_19⟩ := thE T_18 q_r_17 (k := 57) (n := 60) (k2 := 4) (b := 59) (p_f_6 : Rg (0) (59) (x1)) (by decide) (by decide) (by decide)
        refine s_ref e_r_19 ?_
        refine s_ref (hr_e e_o_15 (hr_e e_o_11 (hr_q (fr_R f_o_7 r_x0 (by decide) rfl rfl) (hr_q (fr_R f_o_5 r_x0 (by decide) rfl rfl) e_r_4)))) ?_
        refine s_gd (by rw [thN T_18 q_r_4 (k := 47) (n := 4096) rfl (by decide)]; exact rg_inB (i_f_14 : Rg (0) (4095) (o_7.1)) (by decide)) ?_
        have pf_19 : LwR ρ c o_15.2 := (by rw [e_o_15]; exact (by rw [e_o_11]; exact (lw_fr T_9  f_o_7 (fun _ => rfl) (fun _ => rfl) (fun _ => rfl) (lw_fr T_1  f_o_5 (fun _ => rfl) (fun _ => rfl) (fun _ => rfl) pf_7))))
        have pf_20 : HasR ρ c x0 x1 o_15.2 := (by rw [e_o_15]; exact (by rw [e_o_11]; exact (hr_fr T_9 r_x0 f_o_7 (fun _ => rfl) (fun _ _ => rfl) rfl (fun _ => rfl) (fun _ => rfl) (hr_fr T_1 r_x0 f_o_5 (fun _ => rfl) (fun _ _ => rfl) rfl (fun _ => rfl) (fun _ => rfl) (by rw [e_o_1]; exact (hr_of T r_x0 pl eb_o_1 c_2))))))
        refine s_cIf (S := fS [(47, 999), (6, 4), (6, 5), (6, 6), (6, 7), (6, 8), (6, 9)] [(1503, [(34, 999), (35, 999), (36, 999), (37, 999), (38, 999), (4, 5), (4, 6), (4, 7), (4, 8), (4, 9), (4, 10)]), (1802, [(34, 999), (35, 999), (36, 999), (37, 999), (38, 999), (4, 5), (4, 6), (4, 7), (4, 8), (4, 9), (4, 10)])]) T_18 (fs_sub (pmA_s hA rfl) (fs_c (pmO_s hi_1503 rfl) (fs_c (pmO_s hi_1802 rfl) fs_n))) (zX8_markOf hF fs_a (fs_o (.head _)) (fs_o (.tail _ (.head _))) (th_id T_18 q_r_17 (k := 57) (w := 3200) e_r_19 rfl (by decide)) (th_in _ T_18) q_r_3 q_r_19 (thI T_18 q_r_4 (k := 47) rfl : Rg (-2147483648) (2147483647) ((hI o_15.2 r_4 o_7.1.toNatClampNeg))) pf_19 (thG T_18 q_r_4) (pf_20.2 _ e_r_17 _ e_r_19)) (fun o_22 T_21 i_o_22 f_o_22 => ?_)
        refine s_br (fun c_22 => ?_) (fun c_22 => ?_)
        · have _ := c_22
          have i_f_23 : Rg (-1) (43) (o_15.1) := rg_eq c_22 i_o_22
          refine s_br (fun c_24 => ?_) (fun c_24 => ?_)
          · have _ := c_24
            exact (rc_eq c_24 (rg_b rfl : Rg (1) (1) ((1 : Int32))) (rg_b rfl : Rg (0) (0) (0 : Int32)) (by decide)).elim
          · have _ := c_24
            refine s_ref (hr_q (fr_R f_o_22 r_x0 (by decide) rfl rfl) (hr_e e_o_15 (hr_e e_o_11 (hr_q (fr_R f_o_7 r_x0 (by decide) rfl rfl) e_r_6)))) ?_
            refine s_cV (zX9_clear hF (pmO_e (th_id T_9 r_x0 (k := 12) (i := 0) (w := 2100) e_r_6 rfl (by decide)) hi_2100 rfl) T_21 q_r_6) (fun o_2q7 T_25 => ?_)
            exact s_some ⟨(T_25), (rg_m i_f_14 (by decide))⟩
        · have _ := c_22
          refine s_br (fun c_26 => ?_) (fun c_26 => ?_)
          · have _ := c_26
            refine s_ref (hr_q (fr_R f_o_22 r_x0 (by decide) rfl rfl) (hr_e e_o_15 (hr_e e_o_11 (hr_q (fr_R f_o_7 r_x0 (by decide) rfl rfl) e_r_6)))) ?_
            refine s_cV (zX9_clear hF (pmO_e (th_id T_9 r_x0 (k := 12) (i := 0) (w := 2100) e_r_6 rfl (by decide)) hi_2100 rfl) T_21 q_r_6) (fun o_2q10 T_27 => ?_)
            exact s_some ⟨(T_27), (rg_m (rg_b rfl : Rg (-1) (-1) ((- 1 : Int32))) (by decide))⟩
          · have _ := c_26
            exact (rc_ne c_26 (rg_b rfl : Rg (0) (0) ((0 : Int32))) (rg_b rfl : Rg (0) (0) (0 : Int32))).elim
      · have _ := c_16
        have i_f_28 : Rg (1) (1) (o_11.1) := rg_nlo c_16 i_o_11 (rg_b rfl : Rg (0) (0) (0 : Int32))
        refine s_ref (hr_e e_o_11 (hr_q (fr_R f_o_7 r_x0 (by decide) rfl rfl) e_r_6)) ?_
        refine s_cV (zX9_clear hF (pmO_e (th_id T_9 r_x0 (k := 12) (i := 0) (w := 2100) e_r_6 rfl (by decide)) hi_2100 rfl) T_15 q_r_6) (fun o_2q13 T_29 => ?_)
        exact s_some ⟨(T_29), (rg_m i_f_14 (by decide))⟩
set_option maxRecDepth 20000 in
theorem zX4_keyAt {ρ : Nat → Nat} {c : Cm} {F : Nat} (hF : 700000 ≤ F) {h : Hp} {x0 : Nat} {x1 : Int32} (T : TH ρ c h) (r_x0 : ρ x0 = 5) (i_x1 : Rg (-2147483648) (2147483647) (x1)) : Sat (sX4_keyAt h x0 x1) (ZI0 h (-1) (4095)) := by
  unfold sX4_keyAt sX4_keyAt_21 sX4_keyAt_22
  refine s_br (fun c_1 => ?_) (fun c_1 => ?_)
  · have _ := c_1
    have i_f_2 : Rg (-2147483648) (-1) (x1) := rg_lt1 c_1 i_x1 (rg_b rfl : Rg (0) (0) (0 : Int32))
    exact s_some ⟨rfl, (rg_m (rg_b rfl : Rg (-1) (-1) ((- 1 : Int32))) (by decide))⟩
  · have _ := c_1
    have i_f_3 : Rg (0) (2147483647) (x1) := rg_le2 (nlt_le c_1) (rg_b rfl : Rg (0) (0) (0 : Int32)) i_x1
    refine s_br (fun c_4 => ?_) (fun c_4 => ?_)
    · have _ := c_4
      exact s_some ⟨rfl, (rg_m (rg_b rfl : Rg (-1) (-1) ((- 1 : Int32))) (by decide))⟩
    · have _ := c_4
      have i_f_5 : Rg (0) (4095) (x1) := rg_lt1 (nle_lt c_4) i_f_3 (thI T r_x0 (k := 5) (i := 14) rfl : Rg (0) (4096) ((hI h x0 14)))
      have i_f_6 : Rg (1) (4096) ((hI h x0 14)) := rg_lt2 (nle_lt c_4) i_f_3 (thI T r_x0 (k := 5) (i := 14) rfl : Rg (0) (4096) ((hI h x0 14)))
      obtain ⟨r_3, e_r_3, q_r_3⟩ := thR T r_x0 (k := 5) (i := 12) (k2 := 45) rfl (by decide)
      refine s_ref e_r_3 ?_
      refine s_gd (by rw [thN T q_r_3 (k := 45) (n := 4096) rfl (by decide)]; exact rg_inB (i_f_5 : Rg (0) (4095) (x1)) (by decide)) ?_
      exact s_some ⟨rfl, (rg_m (thI T q_r_3 (k := 45) rfl : Rg (0) (4095) ((hI h r_3 x1.toNatClampNeg))) (by decide))⟩
set_option maxRecDepth 20000 in
theorem zX11_key {ρ : Nat → Nat} {c : Cm} {F : Nat} (hF : 700000 ≤ F) {h : Hp} {x0 : Nat} {x1 : Int32} (T : TH ρ c h) (r_x0 : ρ x0 = 12) (i_x1 : Rg (-2147483648) (2147483647) (x1)) : Sat (sX11_key h x0 x1) (ZI0 h (-1) (4095)) := by
  unfold sX11_key 
  obtain ⟨r_1, e_r_1, q_r_1⟩ := thR T r_x0 (k := 12) (i := 11) (k2 := 5) rfl (by decide)
  refine s_ref e_r_1 ?_
  refine s_dI0 (zX4_keyAt hF T q_r_1 i_x1) (fun o_2 eb_o_2 e_o_2 i_o_2 => ?_)
  have T_1 := th_eq e_o_2 T
  exact s_some ⟨(e_o_2.trans rfl), i_o_2⟩
set_option maxRecDepth 20000 in
theorem zX11_move {ρ : Nat → Nat} {c : Cm} {F : Nat} (hF : 700000 ≤ F) (hA : pmA c [(47, 999), (6, 4), (6, 5), (6, 6), (6, 7), (6, 8), (6, 9)]) (hi_1503 : pmO c 1503 [(34, 999), (35, 999), (36, 999), (37, 999), (38, 999), (4, 5), (4, 6), (4, 7), (4, 8), (4, 9), (4, 10)]) {h : Hp} {x0 : Nat} {x1 : Int32} {x2 : Int32} {x3 : Int32} (T : TH ρ c h) (r_x0 : ρ x0 = 12) (i_x1 : Rg (-2147483648) (2147483647) (x1)) (i_x2 : Rg (-2147483648) (2147483647) (x2)) (i_x3 : Rg (-2147483648) (2147483647) (x3)) (lw : (LwR ρ c h)) (pl : (PlP ρ c x0 h)) : Sat (sX11_move F h x0 x1 x2 x3) (ZI ρ c (-102) (63)) := by
  unfold sX11_move sX11_move_9 sX11_move_25 sX5_kindOf sX11_move_90 sX5_leftBy sX5_comeTo sX5_manOf
  refine s_br (fun c_1 => ?_) (fun c_1 => ?_)
  · have _ := c_1
    have i_f_2 : Rg (-2147483648) (-1) (x3) := rg_lt1 c_1 i_x3 (rg_b rfl : Rg (0) (0) (0 : Int32))
    exact s_some ⟨(T), (rg_m (rg_b rfl : Rg (-101) (-101) ((- 101 : Int32))) (by decide))⟩
  · have _ := c_1
    have i_f_3 : Rg (0) (2147483647) (x3) := rg_le2 (nlt_le c_1) (rg_b rfl : Rg (0) (0) (0 : Int32)) i_x3
    refine s_br (fun c_4 => ?_) (fun c_4 => ?_)
    · have _ := c_4
      have i_f_5 : Rg (0) (5) (x3) := rg_le1 c_4 i_f_3 (rg_b rfl : Rg (5) (5) ((5 : Int32)))
      refine s_br (fun c_6 => ?_) (fun c_6 => ?_)
      · have _ := c_6
        have i_f_7 : Rg (-2147483648) (-1) (x2) := rg_lt1 c_6 i_x2 (rg_b rfl : Rg (0) (0) (0 : Int32))
        exact s_some ⟨(T), (rg_m (rg_b rfl : Rg (-102) (-102) ((- 102 : Int32))) (by decide))⟩
      · have _ := c_6
        have i_f_8 : Rg (0) (2147483647) (x2) := rg_le2 (nlt_le c_6) (rg_b rfl : Rg (0) (0) (0 : Int32)) i_x2
        refine s_cIq (zX11_listMoves hF (pmA_s hA rfl) (pmO_s hi_1503 rfl) T r_x0 i_x1 lw pl) (fun o_4 T_9 i_o_4 p_o_4 => ?_)
        have pq_o_4_0 : o_4.1.toInt = 0 ∨ (0 ≤ (x1).toInt ∧ (x1).toInt ≤ 59) := p_o_4.1
        refine s_br (fun c_10 => ?_) (fun c_10 => ?_)
        · have _ := c_10
          have i_f_11 : Rg (0) (4095) (x2) := rg_lt1 c_10 i_f_8 i_o_4
          have i_f_12 : Rg (1) (4096) (o_4.1) := rg_lt2 c_10 i_f_8 i_o_4
          obtain ⟨r_6, e_r_6, q_r_6⟩ := thR T_9 r_x0 (k := 12) (i := 12) (k2 := 47) rfl (by decide)
          refine s_ref e_r_6 ?_
          refine s_gd (by rw [thN T_9 q_r_6 (k := 47) (n := 4096) rfl (by decide)]; exact rg_inB (i_f_11 : Rg (0) (4095) (x2)) (by decide)) ?_
          refine s_q (fun v_8 e_13 => ?_)
          have i_v_8 : Rg (-2147483648) (2147483647) (v_8) := by rw [e_13]; exact (thI T_9 q_r_6 (k := 47) rfl : Rg (-2147483648) (2147483647) (hI o_4.2 r_6 x2.toNatClampNeg))
          refine s_br (fun c_14 => ?_) (fun c_14 => ?_)
          · have _ := c_14
            have i_f_15 : Rg (0) (0) (x3) := rg_eq c_14 (rg_b rfl : Rg (0) (0) ((0 : Int32)))
            refine s_pu (fun o_9z e_16 => ?_)
            try dsimp only
            have i_o_9z : Rg (0) (3) (o_9z) := by rw [e_16]; exact (rg_and (rg_b rfl : Rg (3) (3) ((3 : Int32))) (by decide) : Rg (0) (3) ((v_8 >>> ((24 : Int32) &&& 31)) &&& (3 : Int32)))
            refine s_br (fun c_17 => ?_) (fun c_17 => ?_)
            · have _ := c_17
              have i_f_18 : Rg (3) (3) (o_9z) := rg_eq c_17 (rg_b rfl : Rg (3) (3) ((3 : Int32)))
              exact s_some ⟨(T_9), (rg_m (rg_b rfl : Rg (-1) (-1) ((- 1 : Int32))) (by decide))⟩
            · have _ := c_17
              have i_f_19 : Rg (0) (2) (o_9z) := rg_nhi c_17 i_o_9z (rg_b rfl : Rg (3) (3) ((3 : Int32)))
              refine s_pu (fun o_11z e_20 => ?_)
              try dsimp only
              have i_o_11z : Rg (0) (63) (o_11z) := by rw [e_20]; exact (rg_and (rg_b rfl : Rg (63) (63) ((63 : Int32))) (by decide) : Rg (0) (63) ((v_8 >>> ((6 : Int32) &&& 31)) &&& (63 : Int32)))
              exact s_some ⟨(T_9), (rg_m i_o_11z (by decide))⟩
          · have _ := c_14
            have i_f_21 : Rg (1) (5) (x3) := rg_nlo c_14 i_f_5 (rg_b rfl : Rg (0) (0) ((0 : Int32)))
            refine s_br (fun c_22 => ?_) (fun c_22 => ?_)
            · have _ := c_22
              have i_f_23 : Rg (1) (1) (x3) := rg_eq c_22 (rg_b rfl : Rg (1) (1) ((1 : Int32)))
              refine s_pu (fun o_13z e_24 => ?_)
              try dsimp only
              have i_o_13z : Rg (0) (63) (o_13z) := by rw [e_24]; exact (rg_and (rg_b rfl : Rg (63) (63) ((63 : Int32))) (by decide) : Rg (0) (63) (v_8 &&& (63 : Int32)))
              exact s_some ⟨(T_9), (rg_m i_o_13z (by decide))⟩
            · have _ := c_22
              have i_f_25 : Rg (2) (5) (x3) := rg_nlo c_22 i_f_21 (rg_b rfl : Rg (1) (1) ((1 : Int32)))
              refine s_br (fun c_26 => ?_) (fun c_26 => ?_)
              · have _ := c_26
                have i_f_27 : Rg (2) (2) (x3) := rg_eq c_26 (rg_b rfl : Rg (2) (2) ((2 : Int32)))
                refine s_pu (fun o_15z e_28 => ?_)
                try dsimp only
                have i_o_15z : Rg (0) (11) (o_15z) := by rw [e_28]; exact (gq_man (by rw [e_13]; exact (thG T_9 q_r_6)) : Rg (0) (11) ((v_8 >>> ((12 : Int32) &&& 31)) &&& (15 : Int32)))
                exact s_some ⟨(T_9), (rg_m i_o_15z (by decide))⟩
              · have _ := c_26
                have i_f_29 : Rg (3) (5) (x3) := rg_nlo c_26 i_f_25 (rg_b rfl : Rg (2) (2) ((2 : Int32)))
                refine s_br (fun c_30 => ?_) (fun c_30 => ?_)
                · have _ := c_30
                  have i_f_31 : Rg (3) (3) (x3) := rg_eq c_30 (rg_b rfl : Rg (3) (3) ((3 : Int32)))
                  refine s_dI0 (zX5_becomes hF T_9 i_v_8 (by rw [e_13]; exact (thG T_9 q_r_6))) (fun o_17 eb_o_17 e_o_17 i_o_17 => ?_)
                  have T_32 := th_eq e_o_17 T_9
                  exact s_some ⟨(T_32), (rg_m i_o_17 (by decide))⟩
                · have _ := c_30
                  have i_f_33 : Rg (4) (5) (x3) := rg_nlo c_30 i_f_29 (rg_b rfl : Rg (3) (3) ((3 : Int32)))
                  refine s_br (fun c_34 => ?_) (fun c_34 => ?_)
                  · have _ := c_34
                    have i_f_35 : Rg (4) (4) (x3) := rg_eq c_34 (rg_b rfl : Rg (4) (4) ((4 : Int32)))
                    refine s_dI0 (zX5_takenBy hF T_9 i_v_8 (by rw [e_13]; exact (thG T_9 q_r_6))) (fun o_19 eb_o_19 e_o_19 i_o_19 => ?_)
                    have T_36 := th_eq e_o_19 T_9
                    exact s_some ⟨(T_36), (rg_m i_o_19 (by decide))⟩
                  · have _ := c_34
                    have i_f_37 : Rg (5) (5) (x3) := rg_nlo c_34 i_f_33 (rg_b rfl : Rg (4) (4) ((4 : Int32)))
                    refine s_pu (fun o_21z e_38 => ?_)
                    try dsimp only
                    have i_o_21z : Rg (0) (3) (o_21z) := by rw [e_38]; exact (rg_and (rg_b rfl : Rg (3) (3) ((3 : Int32))) (by decide) : Rg (0) (3) ((v_8 >>> ((24 : Int32) &&& 31)) &&& (3 : Int32)))
                    exact s_some ⟨(T_9), (rg_m i_o_21z (by decide))⟩
        · have _ := c_10
          exact s_some ⟨(T_9), (rg_m (rg_b rfl : Rg (-102) (-102) ((- 102 : Int32))) (by decide))⟩
    · have _ := c_4
      have i_f_39 : Rg (6) (2147483647) (x3) := rg_lt2 (nle_lt c_4) (rg_b rfl : Rg (5) (5) ((5 : Int32))) i_f_3
      exact s_some ⟨(T), (rg_m (rg_b rfl : Rg (-101) (-101) ((- 101 : Int32))) (by decide))⟩
set_option maxRecDepth 20000 in
theorem zX11_moves {ρ : Nat → Nat} {c : Cm} {F : Nat} (hF : 700000 ≤ F) (hA : pmA c [(47, 999), (6, 4), (6, 5), (6, 6), (6, 7), (6, 8), (6, 9)]) (hi_1503 : pmO c 1503 [(34, 999), (35, 999), (36, 999), (37, 999), (38, 999), (4, 5), (4, 6), (4, 7), (4, 8), (4, 9), (4, 10)]) {h : Hp} {x0 : Nat} {x1 : Int32} (T : TH ρ c h) (r_x0 : ρ x0 = 12) (i_x1 : Rg (-2147483648) (2147483647) (x1)) (lw : (LwR ρ c h)) (pl : (PlP ρ c x0 h)) : Sat (sX11_moves F h x0 x1) (ZI ρ c (-102) (4096)) := by
  unfold sX11_moves sX11_moves_18
  refine s_dP0 (zX11_isPlace hF T r_x0 i_x1) (fun o_1 eb_o_1 e_o_1 i_o_1 p_o_1 => ?_)
  have T_1 := th_eq e_o_1 T
  refine s_br (fun c_2 => ?_) (fun c_2 => ?_)
  · have _ := c_2
    have i_f_3 : Rg (0) (0) (o_1.1) := rg_eq c_2 (rg_b rfl : Rg (0) (0) (0 : Int32))
    exact s_some ⟨(T_1), (rg_m (rg_b rfl : Rg (-102) (-102) ((- 102 : Int32))) (by decide))⟩
  · have _ := c_2
    have i_f_4 : Rg (1) (1) (o_1.1) := rg_nlo c_2 i_o_1 (rg_b rfl : Rg (0) (0) (0 : Int32))
    have p_f_5 := p_o_1 c_2
    have pf_6 : LwR ρ c o_1.2 := (by rw [e_o_1]; exact lw)
    have pf_7 : PlP ρ c x0 o_1.2 := (by rw [e_o_1]; exact pl)
    refine s_cIq (zX11_listMoves hF (pmA_s hA rfl) (pmO_s hi_1503 rfl) T_1 r_x0 (rg_m p_f_5 (by decide)) pf_6 pf_7) (fun o_3 T_8 i_o_3 p_o_3 => ?_)
    have pq_o_3_0 : o_3.1.toInt = 0 ∨ (0 ≤ (x1).toInt ∧ (x1).toInt ≤ 59) := p_o_3.1
    exact s_some ⟨(T_8), (rg_m i_o_3 (by decide))⟩
set_option maxRecDepth 20000 in
theorem zX11_out {ρ : Nat → Nat} {c : Cm} {F : Nat} (hF : 700000 ≤ F) {h : Hp} {x0 : Nat} {x1 : Int32} (T : TH ρ c h) (r_x0 : ρ x0 = 12) (i_x1 : Rg (-2147483648) (2147483647) (x1)) : Sat (sX11_out h x0 x1) (ZI0 h (-1) (255)) := by
  unfold sX11_out 
  obtain ⟨r_1, e_r_1, q_r_1⟩ := thR T r_x0 (k := 12) (i := 1) (k2 := 10) rfl (by decide)
  refine s_ref e_r_1 ?_
  refine s_dP0 (zX9_byteAt hF T q_r_1 i_x1) (fun o_2 eb_o_2 e_o_2 i_o_2 p_o_2 => ?_)
  have T_1 := th_eq e_o_2 T
  exact s_some ⟨(e_o_2.trans rfl), i_o_2⟩
set_option maxRecDepth 20000 in
theorem zX11_played {ρ : Nat → Nat} {c : Cm} {F : Nat} (hF : 700000 ≤ F) {h : Hp} {x0 : Nat} {x1 : Int32} {x2 : Int32} (T : TH ρ c h) (r_x0 : ρ x0 = 12) (i_x1 : Rg (-2147483648) (2147483647) (x1)) (i_x2 : Rg (-2147483648) (2147483647) (x2)) : Sat (sX11_played h x0 x1 x2) (ZI0 h (-102) (4095)) := by
  unfold sX11_played sX11_played_39 sX11_played_41
  refine s_dP0 (zX11_isGame hF T i_x1) (fun o_1 eb_o_1 e_o_1 i_o_1 p_o_1 => ?_)
  have T_1 := th_eq e_o_1 T
  refine s_br (fun c_2 => ?_) (fun c_2 => ?_)
  · have _ := c_2
    have i_f_3 : Rg (0) (0) (o_1.1) := rg_eq c_2 (rg_b rfl : Rg (0) (0) (0 : Int32))
    exact s_some ⟨(e_o_1.trans rfl), (rg_m (rg_b rfl : Rg (-101) (-101) ((- 101 : Int32))) (by decide))⟩
  · have _ := c_2
    have i_f_4 : Rg (1) (1) (o_1.1) := rg_nlo c_2 i_o_1 (rg_b rfl : Rg (0) (0) (0 : Int32))
    have p_f_5 := p_o_1 c_2
    refine s_br (fun c_6 => ?_) (fun c_6 => ?_)
    · have _ := c_6
      have i_f_7 : Rg (-2147483648) (-1) (x2) := rg_lt1 c_6 i_x2 (rg_b rfl : Rg (0) (0) (0 : Int32))
      exact s_some ⟨(e_o_1.trans rfl), (rg_m (rg_b rfl : Rg (-102) (-102) ((- 102 : Int32))) (by decide))⟩
    · have _ := c_6
      have i_f_8 : Rg (0) (2147483647) (x2) := rg_le2 (nlt_le c_6) (rg_b rfl : Rg (0) (0) (0 : Int32)) i_x2
      obtain ⟨r_4, e_r_4, q_r_4⟩ := thR T_1 r_x0 (k := 12) (i := 17) (k2 := 61) rfl (by decide)
      refine s_ref e_r_4 ?_
      refine s_gd (by rw [thN T_1 q_r_4 (k := 61) (n := 8) rfl (by decide)]; exact rg_inB (p_f_5 : Rg (0) (7) (x1)) (by decide)) ?_
      refine s_br (fun c_9 => ?_) (fun c_9 => ?_)
      · have _ := c_9
        exact s_some ⟨(e_o_1.trans rfl), (rg_m (rg_b rfl : Rg (-102) (-102) ((- 102 : Int32))) (by decide))⟩
      · have _ := c_9
        have i_f_10 : Rg (0) (299) (x2) := rg_lt1 (nle_lt c_9) i_f_8 (thI T_1 q_r_4 (k := 61) rfl : Rg (-1) (300) ((hI o_1.2 r_4 x1.toNatClampNeg)))
        have i_f_11 : Rg (1) (300) ((hI o_1.2 r_4 x1.toNatClampNeg)) := rg_lt2 (nle_lt c_9) i_f_8 (thI T_1 q_r_4 (k := 61) rfl : Rg (-1) (300) ((hI o_1.2 r_4 x1.toNatClampNeg)))
        obtain ⟨r_7, e_r_7, q_r_7⟩ := thR T_1 r_x0 (k := 12) (i := 16) (k2 := 60) rfl (by decide)
        refine s_ref e_r_7 ?_
        refine s_gd (by rw [thN T_1 q_r_7 (k := 60) (n := 2408) rfl (by decide)]; exact rg_inB ((rg_m (rg_add (rg_mulc p_f_5 (rg_b rfl : Rg (301) (301) ((301 : Int32))) (by decide) : Rg (0) (2107) ((x1 * (301 : Int32)))) i_f_10 (by decide) : Rg (0) (2406) (((x1 * (301 : Int32)) + x2))) (by decide)) : Rg (0) (2407) (((x1 * (301 : Int32)) + x2))) (by decide)) ?_
        exact s_some ⟨(e_o_1.trans rfl), (rg_m (thI T_1 q_r_7 (k := 60) rfl : Rg (0) (4095) ((hI o_1.2 r_7 ((x1 * (301 : Int32)) + x2).toNatClampNeg))) (by decide))⟩
set_option maxRecDepth 20000 in
theorem zX2_isDigit {ρ : Nat → Nat} {c : Cm} {F : Nat} (hF : 700000 ≤ F) {h : Hp} {x0 : Int32} (T : TH ρ c h) (i_x0 : Rg (-1) (255) (x0)) : Sat (sX2_isDigit h x0) (ZP0 h (0) (1) (0) (Rg (48) (57) (x0))) := by
  unfold sX2_isDigit sX2_isDigit_16 sX2_isDigit_17
  refine s_br (fun c_1 => ?_) (fun c_1 => ?_)
  · have _ := c_1
    have i_f_2 : Rg (-1) (47) (x0) := rg_lt1 c_1 i_x0 (rg_b rfl : Rg (48) (48) ((48 : Int32)))
    refine s_gd (rg_bool (rg_m (rg_b rfl : Rg (0) (0) ((0 : Int32))) (by decide))) ?_
    exact s_some ⟨rfl, (rg_m (rg_b rfl : Rg (0) (0) ((0 : Int32))) (by decide)), (fun q => absurd (rz_s (rg_b rfl : Rg (0) (0) ((0 : Int32))) (rg_b rfl : Rg (0) (0) (0 : Int32))) q)⟩
  · have _ := c_1
    have i_f_3 : Rg (48) (255) (x0) := rg_le2 (nlt_le c_1) (rg_b rfl : Rg (48) (48) ((48 : Int32))) i_x0
    refine s_br (fun c_4 => ?_) (fun c_4 => ?_)
    · have _ := c_4
      have i_f_5 : Rg (58) (255) (x0) := rg_lt2 c_4 (rg_b rfl : Rg (57) (57) ((57 : Int32))) i_f_3
      refine s_gd (rg_bool (rg_m (rg_b rfl : Rg (0) (0) ((0 : Int32))) (by decide))) ?_
      exact s_some ⟨rfl, (rg_m (rg_b rfl : Rg (0) (0) ((0 : Int32))) (by decide)), (fun q => absurd (rz_s (rg_b rfl : Rg (0) (0) ((0 : Int32))) (rg_b rfl : Rg (0) (0) (0 : Int32))) q)⟩
    · have _ := c_4
      have i_f_6 : Rg (48) (57) (x0) := rg_le1 (nlt_le c_4) i_f_3 (rg_b rfl : Rg (57) (57) ((57 : Int32)))
      refine s_gd (rg_bool (rg_m (rg_b rfl : Rg (1) (1) ((1 : Int32))) (by decide))) ?_
      exact s_some ⟨rfl, (rg_m (rg_b rfl : Rg (1) (1) ((1 : Int32))) (by decide)), (fun _ => i_f_6)⟩
set_option maxRecDepth 20000 in
theorem zX7_readChecks_2 {ρ : Nat → Nat} {c : Cm} {F : Nat} {w_x1 : Nat} (hF : 700000 ≤ F) (m5 : c.2.1 5 = true) (hA : pmA c [(8, 2)]) (hO_x1 : pmO c w_x1 [(38, 999)]) : ∀ (f : Nat) {h : Hp} {x0 : Nat} {x1 : Nat} {x2 : Int32}, cw c x1 = w_x1 → TH ρ c h → ρ x0 = 8 → ρ x1 = 4 → Rg (0) (2) (x2) → (2 - x2.toInt).toNat < f → Sat (sX7_readChecks_2 F f h x0 x1 x2) (ZI ρ c (0) (1)) := by
  intro f
  induction f with
  | zero => intros; omega
  | succ f ih =>
    intro h x0 x1 x2 o_x1 T r_x0 r_x1 i_x2 hm
    rw [sX7_readChecks_2]
    obtain ⟨C_2, hC_2⟩ : ∃ C : Int, C = x2.toInt := ⟨_, rfl⟩
    have hk_2 : ∀ {h : Hp} {x0 : Nat} {x1 : Nat} {x2 : Int32}, cw c x1 = w_x1 → TH ρ c h → ρ x0 = 8 → ρ x1 = 4 → Rg (0) (2) (x2) → C_2 < x2.toInt → Sat (sX7_readChecks_2 F f h x0 x1 x2) (ZI ρ c (0) (1)) := by
      intro h' x0' x1' x2' o_x1' T' r_x0' r_x1' i_x2' hl
      exact ih o_x1' T' r_x0' r_x1' i_x2' (by have := i_x2'.1; have := i_x2'.2; omega)
    have hc_2 : C_2 ≤ x2.toInt := by omega
    refine s_br (fun c_1 => ?_) (fun c_1 => ?_)
    · have _ := c_1
      have i_f_2 : Rg (2) (2) (x2) := rg_le2 c_1 (rg_b rfl : Rg (2) (2) ((2 : Int32))) i_x2
      exact s_some ⟨(T), (rg_m (rg_b rfl : Rg (1) (1) ((1 : Int32))) (by decide))⟩
    · have _ := c_1
      have i_f_3 : Rg (0) (1) (x2) := rg_lt1 (nle_lt c_1) i_x2 (rg_b rfl : Rg (2) (2) ((2 : Int32)))
      obtain ⟨r_2, e_r_2, q_r_2⟩ := thM T r_x0 (k := 8) (i := 1) (j := 5) (k2 := 10) rfl (by decide) rfl (by decide) m5
      refine s_ref e_r_2 ?_
      refine s_dP0 (zX9_byteAt hF T q_r_2 (rg_m (thI T r_x0 (k := 8) (i := 2) rfl : Rg (0) (1201) ((hI h x0 2))) (by decide))) (fun o_3 eb_o_3 e_o_3 i_o_3 p_o_3 => ?_)
      have T_4 := th_eq e_o_3 T
      refine s_dP0 (zX2_isDigit hF T_4 i_o_3) (fun o_4 eb_o_4 e_o_4 i_o_4 p_o_4 => ?_)
      have T_5 := th_eq e_o_4 T_4
      refine s_br (fun c_6 => ?_) (fun c_6 => ?_)
      · have _ := c_6
        have i_f_7 : Rg (0) (0) (o_4.1) := rg_eq c_6 (rg_b rfl : Rg (0) (0) (0 : Int32))
        exact s_some ⟨(T_5), (rg_m (rg_b rfl : Rg (0) (0) ((0 : Int32))) (by decide))⟩
      · have _ := c_6
        have i_f_8 : Rg (1) (1) (o_4.1) := rg_nlo c_6 i_o_4 (rg_b rfl : Rg (0) (0) (0 : Int32))
        have p_f_9 := p_o_4 c_6
        have p_f_10 := p_o_3 (fun q => rc_eq q p_f_9 (rg_b rfl : Rg (-1) (-1) (-1 : Int32)) (by decide))
        obtain ⟨r_6, e_r_6, q_r_6⟩ := thR T_5 r_x1 (k := 4) (i := 4) (k2 := 38) rfl (by decide)
        refine s_ref e_r_6 ?_
        refine s_ref (hr_e e_o_4 (hr_e e_o_3 e_r_2)) ?_
        refine s_val (show sX9_byteAt o_4.2 r_2 ((hI o_4.2 x0 2)) = some o_3 from by rw [e_o_4]; rw [e_o_3]; exact eb_o_3) ?_
        refine s_gd (by rw [thN T_4 q_r_6 (k := 38) (n := 2) rfl (by decide)]; exact rg_inB (i_f_3 : Rg (0) (1) (x2)) (by decide)) ?_
        refine s_hq (th_wI T_4 q_r_6 (k := 38) (lo := (0)) (hi := (9)) rfl ((rg_sub p_f_9 (rg_b rfl : Rg (48) (48) ((48 : Int32))) (by decide) : Rg (0) (9) ((o_3.1 - (48 : Int32)))) : Rg (0) (9) ((o_3.1 - (48 : Int32)))) (by decide) (by decide) (pm_o hO_x1 (th_ih T_5 r_x1 (k := 4) rfl e_r_6 o_x1) rfl)) (fun h_10 T_11 w_12 => ?_)
        refine s_hq (th_wI T_11 r_x0 (k := 8) (lo := (0)) (hi := (1201)) rfl ((rg_m (rg_add ((rg_hw w_12 (ne_r r_x0 q_r_6 (by decide)) (rg_he e_o_3 p_f_10)) : Rg (0) (1199) ((hI h_10 x0 2))) (rg_b rfl : Rg (1) (1) ((1 : Int32))) (by decide) : Rg (1) (1200) (((hI h_10 x0 2) + (1 : Int32)))) (by decide)) : Rg (0) (1201) (((hI h_10 x0 2) + (1 : Int32)))) (by decide) (by decide) (pm_a hA rfl)) (fun h_11 T_13 w_14 => ?_)
        refine s_q (fun v_12 e_15 => ?_)
        have i_v_12 : Rg (1) (2) (v_12) := by rw [e_15]; exact (rg_add i_f_3 (rg_b rfl : Rg (1) (1) ((1 : Int32))) (by decide) : Rg (1) (2) (x2 + (1 : Int32)))
        have m_16 : (v_12).toInt = x2.toInt + 1 := by rw [e_15]; exact rg_inc i_f_3 (by decide)
        exact hk_2 o_x1 T_13 r_x0 r_x1 (rg_m i_v_12 (by decide)) (by have := hc_2; omega)
set_option maxRecDepth 20000 in
theorem zX7_readChecks {ρ : Nat → Nat} {c : Cm} {F : Nat} {w_x1 : Nat} (hF : 700000 ≤ F) (m5 : c.2.1 5 = true) (hA : pmA c [(8, 2)]) (hO_x1 : pmO c w_x1 [(38, 999)]) {h : Hp} {x0 : Nat} {x1 : Nat} (o_x1 : cw c x1 = w_x1) (T : TH ρ c h) (r_x0 : ρ x0 = 8) (r_x1 : ρ x1 = 4) : Sat (sX7_readChecks F h x0 x1) (ZI ρ c (0) (1)) := by
  unfold sX7_readChecks 
  have m_1 : Rg (0) (2) ((0 : Int32)) := (rg_m (rg_b rfl : Rg (0) (0) ((0 : Int32))) (by decide))
  exact zX7_readChecks_2 hF m5 (pmA_s hA rfl) (pmO_s hO_x1 rfl) F o_x1 T r_x0 r_x1 (rg_m (rg_b rfl : Rg (0) (0) ((0 : Int32))) (by decide)) (by have := m_1.1; have := m_1.2; omega)
set_option maxRecDepth 20000 in
theorem zX7_readClock_7 {ρ : Nat → Nat} {c : Cm} {F : Nat} {w_x1 : Nat} (hF : 700000 ≤ F) (m5 : c.2.1 5 = true) (hA : pmA c [(8, 2)]) (hO_x1 : pmO c w_x1 [(4, 6)]) : ∀ (f : Nat) {h : Hp} {x0 : Nat} {x1 : Nat} {x2 : Int32} {x3 : Int32}, cw c x1 = w_x1 → TH ρ c h → ρ x0 = 8 → ρ x1 = 4 → Rg (0) (1201) (x2) → Rg (0) (3) (x3) → ((x3.toInt = 0 ∧ (hI h x1 6).toInt = 0) ∨ (x3.toInt = 1 ∧ (hI h x1 6).toInt ≤ 9) ∨ (x3.toInt = 2 ∧ (hI h x1 6).toInt ≤ 99) ∨ x3.toInt = 3) → (3 - x3.toInt).toNat < f → Sat (sX7_readClock_7 F f h x0 x1 x2 x3) (ZI ρ c (0) (1)) := by
  intro f
  induction f with
  | zero => intros; omega
  | succ f ih =>
    intro h x0 x1 x2 x3 o_x1 T r_x0 r_x1 i_x2 i_x3 ck hm
    rw [sX7_readClock_7]
    unfold sX7_readClock_71 sX7_readClock_86 sX7_readClock_99
    obtain ⟨C_7, hC_7⟩ : ∃ C : Int, C = x3.toInt := ⟨_, rfl⟩
    have hk_7 : ∀ {h : Hp} {x0 : Nat} {x1 : Nat} {x2 : Int32} {x3 : Int32}, cw c x1 = w_x1 → TH ρ c h → ρ x0 = 8 → ρ x1 = 4 → Rg (0) (1201) (x2) → Rg (0) (3) (x3) → ((x3.toInt = 0 ∧ (hI h x1 6).toInt = 0) ∨ (x3.toInt = 1 ∧ (hI h x1 6).toInt ≤ 9) ∨ (x3.toInt = 2 ∧ (hI h x1 6).toInt ≤ 99) ∨ x3.toInt = 3) → C_7 < x3.toInt → Sat (sX7_readClock_7 F f h x0 x1 x2 x3) (ZI ρ c (0) (1)) := by
      intro h' x0' x1' x2' x3' o_x1' T' r_x0' r_x1' i_x2' i_x3' ck' hl
      exact ih o_x1' T' r_x0' r_x1' i_x2' i_x3' ck' (by have := i_x3'.1; have := i_x3'.2; omega)
    have hc_7 : C_7 ≤ x3.toInt := by omega
    refine s_br (fun c_1 => ?_) (fun c_1 => ?_)
    · have _ := c_1
      have i_f_2 : Rg (3) (3) (x3) := rg_le2 c_1 (rg_b rfl : Rg (3) (3) ((3 : Int32))) i_x3
      refine s_br (fun c_3 => ?_) (fun c_3 => ?_)
      · have _ := c_3
        have i_f_4 : Rg (0) (200) ((hI h x1 6)) := rg_le1 c_3 (thI T r_x1 (k := 4) (i := 6) rfl : Rg (0) (999) ((hI h x1 6))) (rg_b rfl : Rg (200) (200) ((200 : Int32)))
        refine s_br (fun c_5 => ?_) (fun c_5 => ?_)
        · have _ := c_5
          refine s_gd (rg_bool (rg_m (rg_b rfl : Rg (0) (0) ((0 : Int32))) (by decide))) ?_
          exact s_some ⟨(T), (rg_m (rg_b rfl : Rg (0) (0) ((0 : Int32))) (by decide))⟩
        · have _ := c_5
          have i_f_6 : Rg (0) (1200) (x2) := rg_lt1 (nle_lt c_5) i_x2 (thI T r_x0 (k := 8) (i := 2) rfl : Rg (0) (1201) ((hI h x0 2)))
          have i_f_7 : Rg (1) (1201) ((hI h x0 2)) := rg_lt2 (nle_lt c_5) i_x2 (thI T r_x0 (k := 8) (i := 2) rfl : Rg (0) (1201) ((hI h x0 2)))
          refine s_gd (rg_bool (rg_m (rg_b rfl : Rg (1) (1) ((1 : Int32))) (by decide))) ?_
          exact s_some ⟨(T), (rg_m (rg_b rfl : Rg (1) (1) ((1 : Int32))) (by decide))⟩
      · have _ := c_3
        have i_f_8 : Rg (201) (999) ((hI h x1 6)) := rg_lt2 (nle_lt c_3) (rg_b rfl : Rg (200) (200) ((200 : Int32))) (thI T r_x1 (k := 4) (i := 6) rfl : Rg (0) (999) ((hI h x1 6)))
        refine s_hq (th_wI T r_x0 (k := 8) (lo := (0)) (hi := (1201)) rfl (i_x2 : Rg (0) (1201) (x2)) (by decide) (by decide) (pm_a hA rfl)) (fun h_2q1 T_9 w_10 => ?_)
        refine s_br (fun c_11 => ?_) (fun c_11 => ?_)
        · have _ := c_11
          refine s_gd (rg_bool (rg_m (rg_b rfl : Rg (0) (0) ((0 : Int32))) (by decide))) ?_
          exact s_some ⟨(T_9), (rg_m (rg_b rfl : Rg (0) (0) ((0 : Int32))) (by decide))⟩
        · have _ := c_11
          have i_f_12 : Rg (0) (1200) (x2) := rg_lt1 (nle_lt c_11) i_x2 ((rg_hs w_10 i_x2) : Rg (0) (1201) ((hI h_2q1 x0 2)))
          have i_f_13 : Rg (1) (1201) ((hI h_2q1 x0 2)) := rg_lt2 (nle_lt c_11) i_x2 ((rg_hs w_10 i_x2) : Rg (0) (1201) ((hI h_2q1 x0 2)))
          refine s_gd (rg_bool (rg_m (rg_b rfl : Rg (1) (1) ((1 : Int32))) (by decide))) ?_
          exact s_some ⟨(T_9), (rg_m (rg_b rfl : Rg (1) (1) ((1 : Int32))) (by decide))⟩
    · have _ := c_1
      have i_f_14 : Rg (0) (2) (x3) := rg_lt1 (nle_lt c_1) i_x3 (rg_b rfl : Rg (3) (3) ((3 : Int32)))
      obtain ⟨r_2, e_r_2, q_r_2⟩ := thM T r_x0 (k := 8) (i := 1) (j := 5) (k2 := 10) rfl (by decide) rfl (by decide) m5
      refine s_ref e_r_2 ?_
      refine s_dP0 (zX9_byteAt hF T q_r_2 (rg_m (thI T r_x0 (k := 8) (i := 2) rfl : Rg (0) (1201) ((hI h x0 2))) (by decide))) (fun o_3 eb_o_3 e_o_3 i_o_3 p_o_3 => ?_)
      have T_15 := th_eq e_o_3 T
      refine s_dP0 (zX2_isDigit hF T_15 i_o_3) (fun o_4 eb_o_4 e_o_4 i_o_4 p_o_4 => ?_)
      have T_16 := th_eq e_o_4 T_15
      refine s_br (fun c_17 => ?_) (fun c_17 => ?_)
      · have _ := c_17
        have i_f_18 : Rg (0) (0) (o_4.1) := rg_eq c_17 (rg_b rfl : Rg (0) (0) (0 : Int32))
        refine s_br (fun c_19 => ?_) (fun c_19 => ?_)
        · have _ := c_19
          have i_f_20 : Rg (0) (200) ((hI o_4.2 x1 6)) := rg_le1 c_19 (thI T_16 r_x1 (k := 4) (i := 6) rfl : Rg (0) (999) ((hI o_4.2 x1 6))) (rg_b rfl : Rg (200) (200) ((200 : Int32)))
          refine s_br (fun c_21 => ?_) (fun c_21 => ?_)
          · have _ := c_21
            refine s_gd (rg_bool (rg_m (rg_b rfl : Rg (0) (0) ((0 : Int32))) (by decide))) ?_
            exact s_some ⟨(T_16), (rg_m (rg_b rfl : Rg (0) (0) ((0 : Int32))) (by decide))⟩
          · have _ := c_21
            have i_f_22 : Rg (0) (1200) (x2) := rg_lt1 (nle_lt c_21) i_x2 (thI T_16 r_x0 (k := 8) (i := 2) rfl : Rg (0) (1201) ((hI o_4.2 x0 2)))
            have i_f_23 : Rg (1) (1201) ((hI o_4.2 x0 2)) := rg_lt2 (nle_lt c_21) i_x2 (thI T_16 r_x0 (k := 8) (i := 2) rfl : Rg (0) (1201) ((hI o_4.2 x0 2)))
            refine s_gd (rg_bool (rg_m (rg_b rfl : Rg (1) (1) ((1 : Int32))) (by decide))) ?_
            exact s_some ⟨(T_16), (rg_m (rg_b rfl : Rg (1) (1) ((1 : Int32))) (by decide))⟩
        · have _ := c_19
          have i_f_24 : Rg (201) (999) ((hI o_4.2 x1 6)) := rg_lt2 (nle_lt c_19) (rg_b rfl : Rg (200) (200) ((200 : Int32))) (thI T_16 r_x1 (k := 4) (i := 6) rfl : Rg (0) (999) ((hI o_4.2 x1 6)))
          refine s_hq (th_wI T_16 r_x0 (k := 8) (lo := (0)) (hi := (1201)) rfl (i_x2 : Rg (0) (1201) (x2)) (by decide) (by decide) (pm_a hA rfl)) (fun h_2q8 T_25 w_26 => ?_)
          refine s_br (fun c_27 => ?_) (fun c_27 => ?_)
          · have _ := c_27
            refine s_gd (rg_bool (rg_m (rg_b rfl : Rg (0) (0) ((0 : Int32))) (by decide))) ?_
            exact s_some ⟨(T_25), (rg_m (rg_b rfl : Rg (0) (0) ((0 : Int32))) (by decide))⟩
          · have _ := c_27
            have i_f_28 : Rg (0) (1200) (x2) := rg_lt1 (nle_lt c_27) i_x2 ((rg_hs w_26 i_x2) : Rg (0) (1201) ((hI h_2q8 x0 2)))
            have i_f_29 : Rg (1) (1201) ((hI h_2q8 x0 2)) := rg_lt2 (nle_lt c_27) i_x2 ((rg_hs w_26 i_x2) : Rg (0) (1201) ((hI h_2q8 x0 2)))
            refine s_gd (rg_bool (rg_m (rg_b rfl : Rg (1) (1) ((1 : Int32))) (by decide))) ?_
            exact s_some ⟨(T_25), (rg_m (rg_b rfl : Rg (1) (1) ((1 : Int32))) (by decide))⟩
      · have _ := c_17
        have i_f_30 : Rg (1) (1) (o_4.1) := rg_nlo c_17 i_o_4 (rg_b rfl : Rg (0) (0) (0 : Int32))
        have p_f_31 := p_o_4 c_17
        have p_f_32 := p_o_3 (fun q => rc_eq q p_f_31 (rg_b rfl : Rg (-1) (-1) (-1 : Int32)) (by decide))
        refine s_ref (hr_e e_o_4 (hr_e e_o_3 e_r_2)) ?_
        refine s_val (show sX9_byteAt o_4.2 r_2 ((hI o_4.2 x0 2)) = some o_3 from by rw [e_o_4]; rw [e_o_3]; exact eb_o_3) ?_
        have og_35 : Rg (0) (999) (((((10 : Int32) * (hI o_4.2 x1 6)) + o_3.1) - (48 : Int32))) := ⟨(by have : (((((10 : Int32) * (hI o_4.2 x1 6)) + o_3.1) - (48 : Int32)) : Int32).toInt = ((((10 : Int32) * (hI o_4.2 x1 6)) + o_3.1) : Int32).toInt - ((48 : Int32) : Int32).toInt := ti_sub ((rg_add (rg_mulc' (rg_b rfl : Rg (10) (10) ((10 : Int32))) (thI T_16 r_x1 (k := 4) (i := 6) rfl : Rg (0) (999) ((hI o_4.2 x1 6))) (by decide) : Rg (0) (9990) (((10 : Int32) * (hI o_4.2 x1 6)))) p_f_31 (by decide) : Rg (48) (10047) ((((10 : Int32) * (hI o_4.2 x1 6)) + o_3.1))) : Rg (48) (10047) ((((10 : Int32) * (hI o_4.2 x1 6)) + o_3.1))) ((rg_b rfl : Rg (48) (48) ((48 : Int32))) : Rg (48) (48) ((48 : Int32))) (by decide); have : ((((10 : Int32) * (hI o_4.2 x1 6)) + o_3.1) : Int32).toInt = (((10 : Int32) * (hI o_4.2 x1 6)) : Int32).toInt + (o_3.1 : Int32).toInt := ti_add ((rg_mulc' (rg_b rfl : Rg (10) (10) ((10 : Int32))) (thI T_16 r_x1 (k := 4) (i := 6) rfl : Rg (0) (999) ((hI o_4.2 x1 6))) (by decide) : Rg (0) (9990) (((10 : Int32) * (hI o_4.2 x1 6)))) : Rg (0) (9990) (((10 : Int32) * (hI o_4.2 x1 6)))) (p_f_31 : Rg (48) (57) (o_3.1)) (by decide); have : (((10 : Int32) * (hI o_4.2 x1 6)) : Int32).toInt = 10 * ((hI o_4.2 x1 6) : Int32).toInt := ti_mulc' ((thI T_16 r_x1 (k := 4) (i := 6) rfl : Rg (0) (999) ((hI o_4.2 x1 6))) : Rg (0) (999) ((hI o_4.2 x1 6))) (rg_b rfl : Rg 10 10 ((10 : Int32))) (by decide); have hq_ := ((thI T_16 r_x1 (k := 4) (i := 6) rfl : Rg (0) (999) ((hI o_4.2 x1 6))) : Rg (0) (999) ((hI o_4.2 x1 6))); have := hq_.1; have := hq_.2; have : (hI o_4.2 x1 6).toInt = (hI o_3.2 x1 6).toInt := congrArg Int32.toInt (he_e e_o_4); have : (hI o_3.2 x1 6).toInt = (hI h x1 6).toInt := congrArg Int32.toInt (he_e e_o_3); have := (p_f_31 : Rg (48) (57) (o_3.1)).1; have := (p_f_31 : Rg (48) (57) (o_3.1)).2; have : ((48 : Int32)).toInt = 48 := rfl; have hq_ := ((thI T r_x1 (k := 4) (i := 6) rfl : Rg (0) (999) ((hI h x1 6))) : Rg (0) (999) ((hI h x1 6))); have := hq_.1; have := hq_.2; have := (i_f_14 : Rg (0) (2) (x3)).1; have := (i_f_14 : Rg (0) (2) (x3)).2; have := nle_i c_1; have : ((3 : Int32)).toInt = 3 := rfl; clear o_x1; omega), (by have : (((((10 : Int32) * (hI o_4.2 x1 6)) + o_3.1) - (48 : Int32)) : Int32).toInt = ((((10 : Int32) * (hI o_4.2 x1 6)) + o_3.1) : Int32).toInt - ((48 : Int32) : Int32).toInt := ti_sub ((rg_add (rg_mulc' (rg_b rfl : Rg (10) (10) ((10 : Int32))) (thI T_16 r_x1 (k := 4) (i := 6) rfl : Rg (0) (999) ((hI o_4.2 x1 6))) (by decide) : Rg (0) (9990) (((10 : Int32) * (hI o_4.2 x1 6)))) p_f_31 (by decide) : Rg (48) (10047) ((((10 : Int32) * (hI o_4.2 x1 6)) + o_3.1))) : Rg (48) (10047) ((((10 : Int32) * (hI o_4.2 x1 6)) + o_3.1))) ((rg_b rfl : Rg (48) (48) ((48 : Int32))) : Rg (48) (48) ((48 : Int32))) (by decide); have : ((((10 : Int32) * (hI o_4.2 x1 6)) + o_3.1) : Int32).toInt = (((10 : Int32) * (hI o_4.2 x1 6)) : Int32).toInt + (o_3.1 : Int32).toInt := ti_add ((rg_mulc' (rg_b rfl : Rg (10) (10) ((10 : Int32))) (thI T_16 r_x1 (k := 4) (i := 6) rfl : Rg (0) (999) ((hI o_4.2 x1 6))) (by decide) : Rg (0) (9990) (((10 : Int32) * (hI o_4.2 x1 6)))) : Rg (0) (9990) (((10 : Int32) * (hI o_4.2 x1 6)))) (p_f_31 : Rg (48) (57) (o_3.1)) (by decide); have : (((10 : Int32) * (hI o_4.2 x1 6)) : Int32).toInt = 10 * ((hI o_4.2 x1 6) : Int32).toInt := ti_mulc' ((thI T_16 r_x1 (k := 4) (i := 6) rfl : Rg (0) (999) ((hI o_4.2 x1 6))) : Rg (0) (999) ((hI o_4.2 x1 6))) (rg_b rfl : Rg 10 10 ((10 : Int32))) (by decide); have hq_ := ((thI T_16 r_x1 (k := 4) (i := 6) rfl : Rg (0) (999) ((hI o_4.2 x1 6))) : Rg (0) (999) ((hI o_4.2 x1 6))); have := hq_.1; have := hq_.2; have : (hI o_4.2 x1 6).toInt = (hI o_3.2 x1 6).toInt := congrArg Int32.toInt (he_e e_o_4); have : (hI o_3.2 x1 6).toInt = (hI h x1 6).toInt := congrArg Int32.toInt (he_e e_o_3); have := (p_f_31 : Rg (48) (57) (o_3.1)).1; have := (p_f_31 : Rg (48) (57) (o_3.1)).2; have : ((48 : Int32)).toInt = 48 := rfl; have hq_ := ((thI T r_x1 (k := 4) (i := 6) rfl : Rg (0) (999) ((hI h x1 6))) : Rg (0) (999) ((hI h x1 6))); have := hq_.1; have := hq_.2; have := (i_f_14 : Rg (0) (2) (x3)).1; have := (i_f_14 : Rg (0) (2) (x3)).2; have := nle_i c_1; have : ((3 : Int32)).toInt = 3 := rfl; clear o_x1; omega)⟩
        refine s_hq (th_wI T_15 r_x1 (k := 4) (lo := (0)) (hi := (999)) rfl (og_35 : Rg (0) (999) (((((10 : Int32) * (hI o_4.2 x1 6)) + o_3.1) - (48 : Int32)))) (by decide) (by decide) (pm_o hO_x1 o_x1 rfl)) (fun h_8 T_33 w_34 => ?_)
        refine s_hq (th_wI T_33 r_x0 (k := 8) (lo := (0)) (hi := (1201)) rfl ((rg_m (rg_add ((rg_hw w_34 (ne_r r_x0 r_x1 (by decide)) (rg_he e_o_3 p_f_32)) : Rg (0) (1199) ((hI h_8 x0 2))) (rg_b rfl : Rg (1) (1) ((1 : Int32))) (by decide) : Rg (1) (1200) (((hI h_8 x0 2) + (1 : Int32)))) (by decide)) : Rg (0) (1201) (((hI h_8 x0 2) + (1 : Int32)))) (by decide) (by decide) (pm_a hA rfl)) (fun h_9 T_36 w_37 => ?_)
        refine s_q (fun v_10 e_38 => ?_)
        have i_v_10 : Rg (1) (3) (v_10) := by rw [e_38]; exact (rg_add i_f_14 (rg_b rfl : Rg (1) (1) ((1 : Int32))) (by decide) : Rg (1) (3) (x3 + (1 : Int32)))
        have m_39 : (v_10).toInt = x3.toInt + 1 := by rw [e_38]; exact rg_inc i_f_14 (by decide)
        exact hk_7 o_x1 T_36 r_x0 r_x1 i_x2 (rg_m i_v_10 (by decide)) (show ((v_10).toInt = 0 ∧ (hI h_9 x1 6).toInt = 0) ∨ ((v_10).toInt = 1 ∧ (hI h_9 x1 6).toInt ≤ 9) ∨ ((v_10).toInt = 2 ∧ (hI h_9 x1 6).toInt ≤ 99) ∨ (v_10).toInt = 3 from (by have := (i_v_10 : Rg (1) (3) (v_10)).1; have := (i_v_10 : Rg (1) (3) (v_10)).2; have : (v_10).toInt = (x3 + (1 : Int32) : Int32).toInt := congrArg Int32.toInt e_38; have : (x3 + (1 : Int32) : Int32).toInt = (x3 : Int32).toInt + ((1 : Int32) : Int32).toInt := ti_add (i_f_14 : Rg (0) (2) (x3)) ((rg_b rfl : Rg (1) (1) ((1 : Int32))) : Rg (1) (1) ((1 : Int32))) (by decide); have := (i_f_14 : Rg (0) (2) (x3)).1; have := (i_f_14 : Rg (0) (2) (x3)).2; have : ((1 : Int32)).toInt = 1 := rfl; have hq_ := (((rg_hw w_37 (ne_r r_x1 r_x0 (by decide)) (rg_hs w_34 og_35)) : Rg (0) (999) ((hI h_9 x1 6))) : Rg (0) (999) ((hI h_9 x1 6))); have := hq_.1; have := hq_.2; have : (hI h_9 x1 6).toInt = (hI h_8 x1 6).toInt := congrArg Int32.toInt (he_w w_37 (ne_r r_x1 r_x0 (by decide))); have : (hI h_8 x1 6).toInt = (((((10 : Int32) * (hI o_4.2 x1 6)) + o_3.1) - (48 : Int32)) : Int32).toInt := congrArg Int32.toInt (he_s w_34); have : (((((10 : Int32) * (hI o_4.2 x1 6)) + o_3.1) - (48 : Int32)) : Int32).toInt = ((((10 : Int32) * (hI o_4.2 x1 6)) + o_3.1) : Int32).toInt - ((48 : Int32) : Int32).toInt := ti_sub ((rg_add (rg_mulc' (rg_b rfl : Rg (10) (10) ((10 : Int32))) (thI T_16 r_x1 (k := 4) (i := 6) rfl : Rg (0) (999) ((hI o_4.2 x1 6))) (by decide) : Rg (0) (9990) (((10 : Int32) * (hI o_4.2 x1 6)))) p_f_31 (by decide) : Rg (48) (10047) ((((10 : Int32) * (hI o_4.2 x1 6)) + o_3.1))) : Rg (48) (10047) ((((10 : Int32) * (hI o_4.2 x1 6)) + o_3.1))) ((rg_b rfl : Rg (48) (48) ((48 : Int32))) : Rg (48) (48) ((48 : Int32))) (by decide); have : ((((10 : Int32) * (hI o_4.2 x1 6)) + o_3.1) : Int32).toInt = (((10 : Int32) * (hI o_4.2 x1 6)) : Int32).toInt + (o_3.1 : Int32).toInt := ti_add ((rg_mulc' (rg_b rfl : Rg (10) (10) ((10 : Int32))) (thI T_16 r_x1 (k := 4) (i := 6) rfl : Rg (0) (999) ((hI o_4.2 x1 6))) (by decide) : Rg (0) (9990) (((10 : Int32) * (hI o_4.2 x1 6)))) : Rg (0) (9990) (((10 : Int32) * (hI o_4.2 x1 6)))) (p_f_31 : Rg (48) (57) (o_3.1)) (by decide); have : (((10 : Int32) * (hI o_4.2 x1 6)) : Int32).toInt = 10 * ((hI o_4.2 x1 6) : Int32).toInt := ti_mulc' ((thI T_16 r_x1 (k := 4) (i := 6) rfl : Rg (0) (999) ((hI o_4.2 x1 6))) : Rg (0) (999) ((hI o_4.2 x1 6))) (rg_b rfl : Rg 10 10 ((10 : Int32))) (by decide); have hq_ := ((thI T_16 r_x1 (k := 4) (i := 6) rfl : Rg (0) (999) ((hI o_4.2 x1 6))) : Rg (0) (999) ((hI o_4.2 x1 6))); have := hq_.1; have := hq_.2; have : (hI o_4.2 x1 6).toInt = (hI o_3.2 x1 6).toInt := congrArg Int32.toInt (he_e e_o_4); have : (hI o_3.2 x1 6).toInt = (hI h x1 6).toInt := congrArg Int32.toInt (he_e e_o_3); have := (p_f_31 : Rg (48) (57) (o_3.1)).1; have := (p_f_31 : Rg (48) (57) (o_3.1)).2; have : ((48 : Int32)).toInt = 48 := rfl; have hq_ := ((thI T r_x1 (k := 4) (i := 6) rfl : Rg (0) (999) ((hI h x1 6))) : Rg (0) (999) ((hI h x1 6))); have := hq_.1; have := hq_.2; have := nle_i c_1; have : ((3 : Int32)).toInt = 3 := rfl; clear o_x1; omega)) (by have := hc_7; omega)
