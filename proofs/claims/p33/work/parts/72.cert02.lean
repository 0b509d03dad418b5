set_option maxRecDepth 20000 in
theorem zX10_layFrom {ρ : Nat → Nat} {c : Cm} {F : Nat} (hF : 700000 ≤ F) (m6 : c.2.1 6 = true) (hA : pmA c [(50, 999), (51, 999), (52, 999), (53, 999), (54, 999), (56, 999), (11, 8)]) {h : Hp} {x0 : Nat} {x1 : Int32} {x2 : Int32} (T : TH ρ c h) (r_x0 : ρ x0 = 11) (i_x1 : Rg (0) (23) (x1)) (i_x2 : Rg (0) (63) (x2)) (lw : (LwR ρ c h)) : Sat (sX10_layFrom F h x0 x1 x2) (ZV ρ c) := by
  unfold sX10_layFrom sX10_layFrom_21
  obtain ⟨r_1, e_r_1, q_r_1⟩ := thM T r_x0 (k := 11) (i := 7) (j := 6) (k2 := 2) rfl (by decide) rfl (by decide) m6
  refine s_ref e_r_1 ?_
  refine s_br (fun c_1 => ?_) (fun c_1 => ?_)
  · have _ := c_1
    have i_f_2 : Rg (0) (63) ((hI h r_1 2)) := rg_le1 c_1 (thI T q_r_1 (k := 2) (i := 2) rfl : Rg (0) (64) ((hI h r_1 2))) i_x2
    refine s_q (fun v_1q1 e_3 => ?_)
    have i_v_1q1 : Rg (0) (11) (v_1q1) := by rw [e_3]; exact (rg_shrk 1 (by decide) i_x1 (by decide) : Rg (0) (11) (x1 >>> ((1 : Int32) &&& 31)))
    have m_4 : Rg (0) (64) ((0 : Int32)) := (rg_m (rg_b rfl : Rg (0) (0) ((0 : Int32))) (by decide))
    exact zX10_layFrom_30 hF m6 (pmA_s hA rfl) F T r_x0 i_x1 i_x2 i_v_1q1 (rg_m (rg_b rfl : Rg (0) (0) ((0 : Int32))) (by decide)) lw (by have := m_4.1; have := m_4.2; omega)
  · have _ := c_1
    have i_f_5 : Rg (1) (64) ((hI h r_1 2)) := rg_lt2 (nle_lt c_1) i_x2 (thI T q_r_1 (k := 2) (i := 2) rfl : Rg (0) (64) ((hI h r_1 2)))
    refine s_cJf (S := fS [(56, 999)] []) T (fs_sub (pmA_s hA rfl) fs_n) (zX10_reach hF (cat_m m6) fs_a (th_in _ T) r_x0 i_x1 i_x2 lw) (fun o_3 T_6 f_o_3 => ?_)
    refine s_q (fun v_1q2 e_7 => ?_)
    have i_v_1q2 : Rg (0) (11) (v_1q2) := by rw [e_7]; exact (rg_shrk 1 (by decide) i_x1 (by decide) : Rg (0) (11) (x1 >>> ((1 : Int32) &&& 31)))
    have pf_8 : LwR ρ c o_3.2 := (lw_fr T  f_o_3 (fun _ => rfl) (fun _ => rfl) (fun _ => rfl) lw)
    have m_9 : Rg (0) (64) ((0 : Int32)) := (rg_m (rg_b rfl : Rg (0) (0) ((0 : Int32))) (by decide))
    exact zX10_layFrom_30 hF m6 (pmA_s hA rfl) F T_6 r_x0 i_x1 i_x2 i_v_1q2 (rg_m (rg_b rfl : Rg (0) (0) ((0 : Int32))) (by decide)) pf_8 (by have := m_9.1; have := m_9.2; omega)
set_option maxRecDepth 20000 in
theorem zX10_lay_43 {ρ : Nat → Nat} {c : Cm} {F : Nat} (hF : 700000 ≤ F) (m6 : c.2.1 6 = true) {k_28 : Hp → Nat → Int32 → Option (Hp)} {C_28 : Int} (hk_28 : ∀ {h : Hp} {x0 : Nat} {x2 : Int32}, TH ρ c h → ρ x0 = 11 → Rg (0) (24) (x2) → (LwR ρ c h) → C_28 < x2.toInt → Sat (k_28 h x0 x2) (ZV ρ c)) (hA : pmA c [(50, 999), (51, 999), (52, 999), (53, 999), (54, 999), (56, 999), (11, 8)]) : ∀ (f : Nat) {h : Hp} {x0 : Nat} {x2 : Int32} {x3 : Int32}, TH ρ c h → ρ x0 = 11 → Rg (0) (23) (x2) → Rg (0) (64) (x3) → C_28 ≤ x2.toInt → (LwR ρ c h) → (64 - x3.toInt).toNat < f → Sat (sX10_lay_43 F k_28 f h x0 x2 x3) (ZV ρ c) := by
  intro f
  induction f with
  | zero => intros; omega
  | succ f ih =>
    intro h x0 x2 x3 T r_x0 i_x2 i_x3 hc_28 lw hm
    rw [sX10_lay_43]
    obtain ⟨C_43, hC_43⟩ : ∃ C : Int, C = x3.toInt := ⟨_, rfl⟩
    have hk_43 : ∀ {h : Hp} {x0 : Nat} {x2 : Int32} {x3 : Int32}, TH ρ c h → ρ x0 = 11 → Rg (0) (23) (x2) → Rg (0) (64) (x3) → C_28 ≤ x2.toInt → (LwR ρ c h) → C_43 < x3.toInt → Sat (sX10_lay_43 F k_28 f h x0 x2 x3) (ZV ρ c) := by
      intro h' x0' x2' x3' T' r_x0' i_x2' i_x3' hc_28' lw' hl
      exact ih T' r_x0' i_x2' i_x3' hc_28' lw' (by have := i_x3'.1; have := i_x3'.2; omega)
    have hc_43 : C_43 ≤ x3.toInt := by omega
    refine s_br (fun c_1 => ?_) (fun c_1 => ?_)
    · have _ := c_1
      have i_f_2 : Rg (64) (64) (x3) := rg_le2 c_1 (rg_b rfl : Rg (64) (64) ((64 : Int32))) i_x3
      refine s_q (fun v_2 e_3 => ?_)
      have i_v_2 : Rg (1) (24) (v_2) := by rw [e_3]; exact (rg_add i_x2 (rg_b rfl : Rg (1) (1) ((1 : Int32))) (by decide) : Rg (1) (24) (x2 + (1 : Int32)))
      have m_4 : (v_2).toInt = x2.toInt + 1 := by rw [e_3]; exact rg_inc i_x2 (by decide)
      exact hk_28 T r_x0 (rg_m i_v_2 (by decide)) lw (by have := hc_28; omega)
    · have _ := c_1
      have i_f_5 : Rg (0) (63) (x3) := rg_lt1 (nle_lt c_1) i_x3 (rg_b rfl : Rg (64) (64) ((64 : Int32)))
      refine s_cVf (S := fS [(50, 999), (51, 999), (52, 999), (53, 999), (54, 999), (56, 999), (11, 8)] []) T (fs_sub (pmA_s hA rfl) fs_n) (zX10_layFrom hF (cat_m m6) fs_a (th_in _ T) r_x0 i_x2 i_f_5 lw) (fun o_3 T_6 f_o_3 => ?_)
      refine s_q (fun v_4 e_7 => ?_)
      have i_v_4 : Rg (1) (64) (v_4) := by rw [e_7]; exact (rg_add i_f_5 (rg_b rfl : Rg (1) (1) ((1 : Int32))) (by decide) : Rg (1) (64) (x3 + (1 : Int32)))
      have pf_8 : LwR ρ c o_3 := (lw_fr T  f_o_3 (fun _ => rfl) (fun _ => rfl) (fun _ => rfl) lw)
      have m_9 : (v_4).toInt = x3.toInt + 1 := by rw [e_7]; exact rg_inc i_f_5 (by decide)
      exact hk_43 T_6 r_x0 i_x2 (rg_m i_v_4 (by decide)) hc_28 pf_8 (by have := hc_43; omega)
set_option maxRecDepth 20000 in
theorem zX10_lay_28 {ρ : Nat → Nat} {c : Cm} {F : Nat} (hF : 700000 ≤ F) (m6 : c.2.1 6 = true) (hA : pmA c [(50, 999), (51, 999), (52, 999), (53, 999), (54, 999), (55, 999), (56, 999), (11, 8)]) : ∀ (f : Nat) {h : Hp} {x0 : Nat} {x2 : Int32}, TH ρ c h → ρ x0 = 11 → Rg (0) (24) (x2) → (LwR ρ c h) → (24 - x2.toInt).toNat < f → Sat (sX10_lay_28 F f h x0 x2) (ZV ρ c) := by
  intro f
  induction f with
  | zero => intros; omega
  | succ f ih =>
    intro h x0 x2 T r_x0 i_x2 lw hm
    rw [sX10_lay_28]
    obtain ⟨C_28, hC_28⟩ : ∃ C : Int, C = x2.toInt := ⟨_, rfl⟩
    have hk_28 : ∀ {h : Hp} {x0 : Nat} {x2 : Int32}, TH ρ c h → ρ x0 = 11 → Rg (0) (24) (x2) → (LwR ρ c h) → C_28 < x2.toInt → Sat (sX10_lay_28 F f h x0 x2) (ZV ρ c) := by
      intro h' x0' x2' T' r_x0' i_x2' lw' hl
      exact ih T' r_x0' i_x2' lw' (by have := i_x2'.1; have := i_x2'.2; omega)
    have hc_28 : C_28 ≤ x2.toInt := by omega
    obtain ⟨r_1, e_r_1, q_r_1⟩ := thM T r_x0 (k := 11) (i := 7) (j := 6) (k2 := 2) rfl (by decide) rfl (by decide) m6
    refine s_ref e_r_1 ?_
    refine s_br (fun c_1 => ?_) (fun c_1 => ?_)
    · have _ := c_1
      obtain ⟨r_3, e_r_3, q_r_3⟩ := thR T r_x0 (k := 11) (i := 0) (k2 := 50) rfl (by decide)
      refine s_ref e_r_3 ?_
      refine s_ref e_r_1 ?_
      refine s_gd (by rw [thN T q_r_3 (k := 50) (n := 98305) rfl (by decide)]; exact rg_inB ((rg_mulc (rg_mulc (rg_mulc' (rg_b rfl : Rg (2) (2) ((2 : Int32))) (thI T q_r_1 (k := 2) (i := 3) rfl : Rg (0) (12) ((hI h r_1 3))) (by decide) : Rg (0) (24) (((2 : Int32) * (hI h r_1 3)))) (rg_b rfl : Rg (64) (64) ((64 : Int32))) (by decide) : Rg (0) (1536) ((((2 : Int32) * (hI h r_1 3)) * (64 : Int32)))) (rg_b rfl : Rg (64) (64) ((64 : Int32))) (by decide) : Rg (0) (98304) (((((2 : Int32) * (hI h r_1 3)) * (64 : Int32)) * (64 : Int32)))) : Rg (0) (98304) (((((2 : Int32) * (hI h r_1 3)) * (64 : Int32)) * (64 : Int32)))) (by decide)) ?_
      refine s_hq (th_wI T q_r_3 (k := 50) (lo := (0)) (hi := (172032)) rfl ((thI T r_x0 (k := 11) (i := 8) rfl : Rg (0) (172032) ((hI h x0 8))) : Rg (0) (172032) ((hI h x0 8))) (by decide) (by decide) (pm_a hA rfl)) (fun h_6 T_2 w_3 => ?_)
      refine s_cV (zX10_layAround hF m6 (pmA_s hA rfl) T_2 r_x0) (fun o_7 T_4 => ?_)
      exact s_some (T_4)
    · have _ := c_1
      have i_f_5 : Rg (0) (23) (x2) := rg_lt1 (nle_lt c_1) i_x2 (rg_mulc' (rg_b rfl : Rg (2) (2) ((2 : Int32))) (thI T q_r_1 (k := 2) (i := 3) rfl : Rg (0) (12) ((hI h r_1 3))) (by decide) : Rg (0) (24) (((2 : Int32) * (hI h r_1 3))))
      have i_f_6 : Rg (1) (24) (((2 : Int32) * (hI h r_1 3))) := rg_lt2 (nle_lt c_1) i_x2 (rg_mulc' (rg_b rfl : Rg (2) (2) ((2 : Int32))) (thI T q_r_1 (k := 2) (i := 3) rfl : Rg (0) (12) ((hI h r_1 3))) (by decide) : Rg (0) (24) (((2 : Int32) * (hI h r_1 3))))
      have m_7 : Rg (0) (64) ((0 : Int32)) := (rg_m (rg_b rfl : Rg (0) (0) ((0 : Int32))) (by decide))
      exact zX10_lay_43 hF m6 @hk_28 (pmA_s hA rfl) F T r_x0 i_f_5 (rg_m (rg_b rfl : Rg (0) (0) ((0 : Int32))) (by decide)) hc_28 lw (by have := m_7.1; have := m_7.2; omega)
set_option maxRecDepth 20000 in
theorem zX10_lay {ρ : Nat → Nat} {c : Cm} {F : Nat} {w_x1 : Nat} (hF : 700000 ≤ F) (hA : pmA c [(50, 999), (51, 999), (52, 999), (53, 999), (54, 999), (55, 999), (56, 999), (11, 7), (11, 8)]) {h : Hp} {x0 : Nat} {x1 : Nat} (o_x1 : cw c x1 = w_x1) (T : TH ρ c h) (r_x0 : ρ x0 = 11) (r_x1 : ρ x1 = 2) (ol : (cw c x1 = 2102)) (lw : (LwR ρ c h)) : Sat (sX10_lay F h x0 x1) (ZV ρ c) := by
  unfold sX10_lay 
  refine s_hq (th_wR T r_x0 (k := 11) (i := 7) (j := 6) (k2 := 2) rfl (by decide) rfl (by decide) r_x1 rfl nid_6 (by decide) (by decide) rfl rfl (fun _ => ol) (pm_a hA rfl)) (fun h_1 T_1 w_2 => ?_)
  refine s_hq (th_wI T_1 r_x0 (k := 11) (lo := (0)) (hi := (172032)) rfl ((rg_m (rg_b rfl : Rg (0) (0) ((0 : Int32))) (by decide)) : Rg (0) (172032) ((0 : Int32))) (by decide) (by decide) (pm_a hA rfl)) (fun h_2 T_3 w_4 => ?_)
  obtain ⟨r_3, e_r_3, q_r_3⟩ := thR T_3 r_x0 (k := 11) (i := 3) (k2 := 53) rfl (by decide)
  refine s_ref e_r_3 ?_
  refine s_cVf (S := fS [] [(cw c r_3, [(53, 999)])]) T_3 (fs_sub pmA_n (fs_c (pmO_a hA rfl) fs_n)) (zJ7_fill_d0a16 hF (th_in _ T_3) q_r_3 (k := 53) (n := 1536) rfl (by decide) (by decide) (by decide) (fun _ => (pm_o (fs_o (t := cw c r_3) (B := [(53, 999)]) (.head _)) rfl rfl))) (fun o_4 T_5 f_o_4 => ?_)
  obtain ⟨r_5, e_r_5, q_r_5⟩ := thR T_5 r_x0 (k := 11) (i := 4) (k2 := 54) rfl (by decide)
  refine s_ref e_r_5 ?_
  refine s_cVf (S := fS [] [(cw c r_5, [(54, 999)])]) T_5 (fs_sub pmA_n (fs_c (pmO_a hA rfl) fs_n)) (zJ7_fill_d0a16 hF (th_in _ T_5) q_r_5 (k := 54) (n := 1536) rfl (by decide) (by decide) (by decide) (fun _ => (pm_o (fs_o (t := cw c r_5) (B := [(54, 999)]) (.head _)) rfl rfl))) (fun o_6 T_6 f_o_6 => ?_)
  have pf_7 : LwR ρ c o_6 := (lw_fr T_5  f_o_6 (fun _ => rfl) (fun _ => rfl) (fun _ => rfl) (lw_fr T_3  f_o_4 (fun _ => rfl) (fun _ => rfl) (fun _ => rfl) (lw_fr T_1  (fr1I (A := [(11, 8)]) r_x0 rfl w_4) (fun _ => rfl) (fun _ => rfl) (fun _ => rfl) (lw_fr T  (fr1R (A := [(11, 7)]) r_x0 rfl w_2) (fun _ => rfl) (fun _ => rfl) (fun _ => rfl) lw))))
  have m_8 : Rg (0) (24) ((0 : Int32)) := (rg_m (rg_b rfl : Rg (0) (0) ((0 : Int32))) (by decide))
  exact s_imp (zX10_lay_28 hF nst_s (pmA_s hA rfl) F T_6 r_x0 (rg_m (rg_b rfl : Rg (0) (0) ((0 : Int32))) (by decide)) pf_7 (by have := m_8.1; have := m_8.2; omega)) (fun o ho => th_un (ho))
set_option maxRecDepth 20000 in
theorem zX11_isGame {ρ : Nat → Nat} {c : Cm} {F : Nat} (hF : 700000 ≤ F) {h : Hp} {x0 : Int32} (T : TH ρ c h) (i_x0 : Rg (-2147483648) (2147483647) (x0)) : Sat (sX11_isGame h x0) (ZP0 h (0) (1) (0) (Rg (0) (7) (x0))) := by
  unfold sX11_isGame sX11_isGame_14 sX11_isGame_15
  refine s_br (fun c_1 => ?_) (fun c_1 => ?_)
  · have _ := c_1
    have i_f_2 : Rg (-2147483648) (-1) (x0) := rg_lt1 c_1 i_x0 (rg_b rfl : Rg (0) (0) (0 : Int32))
    refine s_gd (rg_bool (rg_m (rg_b rfl : Rg (0) (0) ((0 : Int32))) (by decide))) ?_
    exact s_some ⟨rfl, (rg_m (rg_b rfl : Rg (0) (0) ((0 : Int32))) (by decide)), (fun q => absurd (rz_s (rg_b rfl : Rg (0) (0) ((0 : Int32))) (rg_b rfl : Rg (0) (0) (0 : Int32))) q)⟩
  · have _ := c_1
    have i_f_3 : Rg (0) (2147483647) (x0) := rg_le2 (nlt_le c_1) (rg_b rfl : Rg (0) (0) (0 : Int32)) i_x0
    refine s_br (fun c_4 => ?_) (fun c_4 => ?_)
    · have _ := c_4
      have i_f_5 : Rg (8) (2147483647) (x0) := rg_le2 c_4 (rg_b rfl : Rg (8) (8) ((8 : Int32))) i_f_3
      refine s_gd (rg_bool (rg_m (rg_b rfl : Rg (0) (0) ((0 : Int32))) (by decide))) ?_
      exact s_some ⟨rfl, (rg_m (rg_b rfl : Rg (0) (0) ((0 : Int32))) (by decide)), (fun q => absurd (rz_s (rg_b rfl : Rg (0) (0) ((0 : Int32))) (rg_b rfl : Rg (0) (0) (0 : Int32))) q)⟩
    · have _ := c_4
      have i_f_6 : Rg (0) (7) (x0) := rg_lt1 (nle_lt c_4) i_f_3 (rg_b rfl : Rg (8) (8) ((8 : Int32)))
      refine s_gd (rg_bool (rg_m (rg_b rfl : Rg (1) (1) ((1 : Int32))) (by decide))) ?_
      exact s_some ⟨rfl, (rg_m (rg_b rfl : Rg (1) (1) ((1 : Int32))) (by decide)), (fun _ => i_f_6)⟩
set_option maxRecDepth 20000 in
theorem zX5_addMove {ρ : Nat → Nat} {c : Cm} {F : Nat} (hF : 700000 ≤ F) (m4 : c.2.1 4 = true) (hA : pmA c [(47, 999), (6, 6)]) {h : Hp} {x0 : Nat} {x1 : Int32} (T : TH ρ c h) (r_x0 : ρ x0 = 6) (i_x1 : Rg (-2147483648) (2147483647) (x1)) (gx : GMq (c.2.1 50) x1) : Sat (sX5_addMove h x0 x1) (ZV ρ c) := by
  unfold sX5_addMove sX5_addMove_32
  obtain ⟨r_1, e_r_1, q_r_1⟩ := thM T r_x0 (k := 6) (i := 5) (j := 4) (k2 := 47) rfl (by decide) rfl (by decide) m4
  refine s_ref e_r_1 ?_
  refine s_br (fun c_1 => ?_) (fun c_1 => ?_)
  · have _ := c_1
    have i_f_2 : Rg (4096) (4096) ((hI h x0 6)) := rg_le2 c_1 (rg_nIn (thN T q_r_1 (k := 47) (n := 4096) rfl (by decide)) (by decide) : Rg (4096) (4096) ((nI (hN h r_1)))) (thI T r_x0 (k := 6) (i := 6) rfl : Rg (0) (4096) ((hI h x0 6)))
    exact s_some (T)
  · have _ := c_1
    have i_f_3 : Rg (0) (4095) ((hI h x0 6)) := rg_lt1 (nle_lt c_1) (thI T r_x0 (k := 6) (i := 6) rfl : Rg (0) (4096) ((hI h x0 6))) (rg_nIn (thN T q_r_1 (k := 47) (n := 4096) rfl (by decide)) (by decide) : Rg (4096) (4096) ((nI (hN h r_1))))
    refine s_ref e_r_1 ?_
    refine s_gd (by rw [thN T q_r_1 (k := 47) (n := 4096) rfl (by decide)]; exact rg_inB (i_f_3 : Rg (0) (4095) ((hI h x0 6))) (by decide)) ?_
    refine s_hq (th_wI T q_r_1 (k := 47) (lo := (-2147483648)) (hi := (2147483647)) rfl (i_x1 : Rg (-2147483648) (2147483647) (x1)) (by decide) (by decide) (pm_a hA rfl) (rpG gx)) (fun h_5 T_4 w_5 => ?_)
    refine s_hq (th_wI T_4 r_x0 (k := 6) (lo := (0)) (hi := (4096)) rfl ((rg_m (rg_add ((rg_hw w_5 (ne_r r_x0 q_r_1 (by decide)) i_f_3) : Rg (0) (4095) ((hI h_5 x0 6))) (rg_b rfl : Rg (1) (1) ((1 : Int32))) (by decide) : Rg (1) (4096) (((hI h_5 x0 6) + (1 : Int32)))) (by decide)) : Rg (0) (4096) (((hI h_5 x0 6) + (1 : Int32)))) (by decide) (by decide) (pm_a hA rfl)) (fun h_6 T_6 w_7 => ?_)
    exact s_some (T_6)
theorem nr_16 {ρ : Nat → Nat} {c : Cm} {F x0 x1 : Nat} {x3 : Int32} {B s : Int} (r0 : ρ x0 = 6) (r1 : ρ x1 = 4) (i3 : Rg (-1) 1 x3) (hB : 0 ≤ B ∧ B ≤ 56) (hd : x3.toInt = 1 ∨ x3.toInt = -1) : ∀ (f : Nat) {h : Hp} {x4 x5 : Int32}, TH ρ c h → Rg 0 63 x4 → Rg (-1) 8 x5 → x4.toInt + x3.toInt - x5.toInt = B → ((x3.toInt = 1 ∧ s ≤ x4.toInt) ∨ (x3.toInt = -1 ∧ x4.toInt ≤ s)) → ((x3.toInt = 1 ∧ (9 - x5.toInt).toNat < f) ∨ (x3.toInt = -1 ∧ (2 + x5.toInt).toNat < f)) → Sat (sX5_nearest_16 F f h x0 x1 x3 x4 x5) (ZQ (ZI0 h (-1) 63) (fun o => o.1.toInt = -1 ∨ (x3.toInt = 1 ∧ s < o.1.toInt) ∨ (x3.toInt = -1 ∧ o.1.toInt < s))) := by
  intro f
  induction f with
  | zero => intros; omega
  | succ f ih =>
    intro h x4 x5 T i4 i5 e hs hm
    rw [sX5_nearest_16]
    unfold sX5_nearest_62
    refine s_br (fun c1 => s_some ⟨⟨rfl, rg_b rfl⟩, Or.inl rfl⟩) (fun c1 => ?_)
    obtain ⟨L, eL, rL⟩ := thR T r0 (i := 0) (k2 := 2) rfl (by decide)
    refine s_ref eL ?_
    refine s_br (fun c2 => s_some ⟨⟨rfl, rg_b rfl⟩, Or.inl rfl⟩) (fun c2 => ?_)
    have z0 := nlt_i c1
    have z1 := nle_i c2
    have iF := (thI T rL (k := 2) (i := 0) rfl : Rg 0 8 (hI h L 0))
    have f1 := iF.2
    have t0 : (0 : Int32).toInt = 0 := rfl
    have a1 : (x4 + x3).toInt = x4.toInt + x3.toInt := ti_add i4 i3 (by decide)
    refine s_q (fun v4 e4 => ?_)
    have i4' : Rg 0 63 v4 := by rw [e4]; exact ⟨by rw [a1]; omega, by rw [a1]; omega⟩
    have v4t : v4.toInt = x4.toInt + x3.toInt := by rw [e4]; exact a1
    obtain ⟨on, eo, ro⟩ := thR T r1 (i := 0) (k2 := 34) rfl (by decide)
    refine s_ref eo ?_
    refine s_gd (by rw [thN T ro (k := 34) (n := 64) rfl (by decide)]; exact rg_inB i4' (by decide)) ?_
    refine s_br (fun c3 => ?_) (fun c3 => ?_)
    · have a2 : (x5 + x3).toInt = x5.toInt + x3.toInt := ti_add i5 i3 (by decide)
      refine s_q (fun v8 e8 => ?_)
      have v8t : v8.toInt = x5.toInt + x3.toInt := by rw [e8]; exact a2
      exact ih T i4' ⟨by omega, by omega⟩ (by omega) (by omega) (by omega)
    · have g0 : (-1 : Int) ≤ v4.toInt := by have := i4'.1; omega
      have g1 : v4.toInt = -1 ∨ (x3.toInt = 1 ∧ s < v4.toInt) ∨ (x3.toInt = -1 ∧ v4.toInt < s) := by omega
      exact s_some ⟨⟨rfl, ⟨g0, i4'.2⟩⟩, g1⟩
theorem zX5_nearest {ρ : Nat → Nat} {c : Cm} {F : Nat} (hF : 700000 ≤ F) {h : Hp} {x0 : Nat} {x1 : Nat} {x2 : Int32} {x3 : Int32} (T : TH ρ c h) (r_x0 : ρ x0 = 6) (r_x1 : ρ x1 = 4) (i_x2 : Rg (0) (63) (x2)) (i_x3 : Rg (-1) (1) (x3)) (sq : SqB (c.2.1 50) x2) (hd : (x3.toInt = 1 ∨ x3.toInt = -1)) : Sat (sX5_nearest F h x0 x1 x2 x3) (ZQ (ZI0 h (-1) (63)) (fun o => o.1.toInt = -1 ∨ ((x3.toInt) = 1 ∧ (x2.toInt) < o.1.toInt) ∨ ((x3.toInt) = -1 ∧ o.1.toInt < (x2.toInt)))) := by
  unfold sX5_nearest
  obtain ⟨L, eL, rL⟩ := thR T r_x0 (i := 0) (k2 := 2) rfl (by decide)
  refine s_ref eL ?_
  obtain ⟨fo, ef, rf⟩ := thR T rL (i := 19) (k2 := 32) rfl (by decide)
  refine s_ref ef ?_
  refine s_gd (by rw [thN T rf (k := 32) (n := 64) rfl (by decide)]; exact rg_inB i_x2 (by decide)) ?_
  have d := thD T rf (i := x2.toNatClampNeg)
  have iq := (thI T rf (k := 32) (i := x2.toNatClampNeg) rfl : Rg 0 7 (hI h fo x2.toNatClampNeg))
  have ex : (x2.toNatClampNeg : Int) = x2.toInt := by
    have : x2.toNatClampNeg = x2.toInt.toNat := rfl
    have := i_x2.1
    omega
  rw [ex] at d
  have a1 : (hI h fo x2.toNatClampNeg + x3).toInt = (hI h fo x2.toNatClampNeg).toInt + x3.toInt := ti_add iq i_x3 (by decide)
  refine s_q (fun v4 e4 => ?_)
  have v4t : v4.toInt = (hI h fo x2.toNatClampNeg).toInt + x3.toInt := by rw [e4]; exact a1
  have q0 := iq.1
  have q1 := iq.2
  have k3 := i_x3.1
  have k4 := i_x3.2
  have hB : 0 ≤ x2.toInt - (hI h fo x2.toNatClampNeg).toInt ∧ x2.toInt - (hI h fo x2.toNatClampNeg).toInt ≤ 56 := by
    refine ⟨by have := d.1; omega, ?_⟩
    rcases sq with w | w
    · have := d.2 w (th_ih T rL rfl ef (kid_w T r_x0 (i := 0) rfl (by decide) eL)) (by have := i_x2.2; omega); omega
    · omega
  exact nr_16 r_x0 r_x1 i_x3 hB hd F T i_x2 ⟨by omega, by omega⟩ (by omega) (by omega) (by omega)

theorem bit_at {A : Int64} {m : Int32} (i : Rg 0 63 m) (n : ¬ (A &&& ((1 : Int64) <<< (m.toInt64 &&& 63))) = 0) : bitJ A m.toNatClampNeg = true := by
  cases q : bitJ A m.toNatClampNeg with
  | true => rfl
  | false =>
    refine absurd ?_ n
    apply Int64.toBitVec_inj.mp
    apply BitVec.eq_of_getLsbD_eq
    intro s hs
    have z : bitJ (A &&& ((1 : Int64) <<< (m.toInt64 &&& 63))) s = false := by
      rw [bj_and, bj_one i]
      by_cases w : m.toNatClampNeg = s
      · rw [← w, q]; rfl
      · rw [decide_eq_false w, Bool.and_false]
    have z0 : bitJ (0 : Int64) s = false := bj_zero s
    exact z.trans z0.symm
theorem cas_ok {q : Bool} {s d m : Int32} (is : Rg 0 63 s) (im : Rg (-1) 63 m) (id : Rg (-1) 1 d) (hd : d.toInt = 1 ∨ d.toInt = -1) (p : m.toInt = -1 ∨ (d.toInt = 1 ∧ s.toInt < m.toInt) ∨ (d.toInt = -1 ∧ m.toInt < s.toInt)) (c1 : ¬ m = (-1 : Int32)) (c2 : ¬ (if 0 ≤ (m - s) then (m - s) else 0 - (m - s)) < (3 : Int32)) (ss : SqB q s) (sm : SqB q m) : Rg 0 63 m ∧ Rg 0 63 (s + d) ∧ Rg 0 63 (s + ((2 : Int32) * d)) ∧ SqB q (s + ((2 : Int32) * d)) := by
  have a1 := is.1
  have a2 := is.2
  have b1 := im.1
  have b2 := im.2
  have n1 : ¬ m.toInt = -1 := fun z => c1 (Int32.toInt_inj.mp z)
  have t3 : (3 : Int32).toInt = 3 := rfl
  have t0 : (0 : Int32).toInt = 0 := rfl
  have e1 := ts (x := m) (y := s) (by omega)
  have e2 : ((2 : Int32) * d).toInt = 2 * d.toInt := ti_mulc' id (rg_b rfl : Rg 2 2 (2 : Int32)) (by decide)
  have e3 := ta (x := s) (y := d) (by omega)
  have e4 := ta (x := s) (y := (2 : Int32) * d) (by rw [e2]; omega)
  rw [e2] at e4
  have far : (d.toInt = 1 ∧ s.toInt + 3 ≤ m.toInt) ∨ (d.toInt = -1 ∧ m.toInt + 3 ≤ s.toInt) := by
    by_cases z : 0 ≤ (m - s)
    · rw [if_pos z] at c2
      have := le_i z
      have := nlt_i c2
      omega
    · rw [if_neg z] at c2
      have := nle_i z
      have := nlt_i c2
      have e5 := ts (x := (0 : Int32)) (y := m - s) (by omega)
      omega
  refine ⟨⟨by omega, by omega⟩, ⟨by omega, by omega⟩, ⟨by omega, by omega⟩, ?_⟩
  rcases ss with w | w
  · exact Or.inl w
  · rcases sm with u | u
    · exact Or.inl u
    · exact Or.inr (by omega)
theorem ac_152 {ρ : Nat → Nat} {c : Cm} {F x0 : Nat} (m4 : c.2.1 4 = true) (hA : pmA c [(47, 999), (6, 6)]) (r0 : ρ x0 = 6) : ∀ (f : Nat) {h : Hp} {x3 x6 : Int32}, TH ρ c h → Rg 0 4096 x3 → Rg (-1) 4095 x6 → (x6.toInt + 1).toNat < f → Sat (sX5_addCastling_152 F f h x0 x3 x6) (ZV ρ c) := by
  intro f
  induction f with
  | zero => intros; omega
  | succ f ih =>
    intro h x3 x6 T i3 i6 hm
    rw [sX5_addCastling_152]
    unfold sX5_addCastling_225
    refine s_br (fun _ => s_some T) (fun c1 => ?_)
    have c1 := nle_i c1
    have a1 := i3.1
    have a2 := i6.2
    have t1 : (1 : Int32).toInt = 1 := rfl
    have e1 := ts (x := x6) (y := (1 : Int32)) (by omega)
    have im : Rg 0 4094 (x6 - (1 : Int32)) := ⟨by omega, by omega⟩
    have ix : Rg 0 4095 x6 := ⟨by omega, i6.2⟩
    obtain ⟨l, el, rl⟩ := thM T r0 (i := 5) (j := 4) (k2 := 47) rfl (by decide) rfl (by decide) m4
    have nl : hN h l = 4096 := thN T rl (k := 47) (n := 4096) rfl (by decide)
    refine s_ref el ?_
    refine s_gd (by rw [nl]; exact rg_inB im (by decide)) ?_
    unfold sX5_comeTo
    refine s_cl (s_some ?_)
    refine s_ref el ?_
    refine s_gd (by rw [nl]; exact rg_inB ix (by decide)) ?_
    refine s_cl (s_some ?_)
    refine s_br (fun _ => s_some T) (fun _ => ?_)
    refine s_ref el ?_
    refine s_gd (by rw [nl]; exact rg_inB im (by decide)) ?_
    refine s_q (fun v11 e11 => ?_)
    refine s_ref el (s_ref el ?_)
    refine s_gd (by rw [nl]; exact rg_inB ix (by decide)) ?_
    refine s_gd (by rw [nl]; exact rg_inB im (by decide)) ?_
    refine s_hq (th_wI T rl (k := 47) (lo := -2147483648) (hi := 2147483647) rfl (rg_top _) (by decide) (by decide) (pm_a hA rfl) (rpG (thG T rl))) (fun h16 T16 e16 => ?_)
    refine s_ref (hr_w e16 el) ?_
    refine s_gd (by rw [thN T16 rl (k := 47) (n := 4096) rfl (by decide)]; exact rg_inB ix (by decide)) ?_
    refine s_hq (th_wI T16 rl (k := 47) (lo := -2147483648) (hi := 2147483647) rfl (rg_top _) (by decide) (by decide) (pm_a hA rfl) (rpG (by rw [e11]; exact thG T rl))) (fun h19 T19 e19 => ?_)
    refine s_q (fun v20 e20 => ?_)
    have ev : v20.toInt = x6.toInt - 1 := by rw [e20]; exact rg_dec ix (by decide)
    exact ih T19 i3 ⟨by omega, by omega⟩ (by omega)
theorem zX5_addCastling {ρ : Nat → Nat} {c : Cm} {F : Nat} (hF : 700000 ≤ F) (m3 : c.2.1 3 = true) (m4 : c.2.1 4 = true) (hA : pmA c [(47, 999), (6, 6)]) {h : Hp} {x0 : Nat} {x1 : Int32} {x2 : Int32} {x3 : Int32} (T : TH ρ c h) (r_x0 : ρ x0 = 6) (i_x1 : Rg (0) (63) (x1)) (i_x2 : Rg (-1) (1) (x2)) (i_x3 : Rg (0) (4096) (x3)) (s1 : SqB (c.2.1 50) x1) (hd : x2.toInt = 1 ∨ x2.toInt = -1) (ry : ∀ L, hR h x0 0 = some L → 0 ≤ (hI h L 4).toInt) : Sat (sX5_addCastling F h x0 x1 x2 x3) (ZV ρ c) := by
  unfold sX5_addCastling sX5_addCastling_73 sX5_addCastling_122
  obtain ⟨b, eb, rb⟩ := thM T r_x0 (i := 4) (j := 3) (k2 := 4) rfl (by decide) rfl (by decide) m3
  refine s_ref eb ?_
  refine s_q (fun v2 e2 => ?_)
  have isd := (thI T rb (k := 4) (i := 5) rfl : Rg 0 1 (hI h b 5))
  have i2 : Rg 0 1 v2 := by
    have t1 : (1 : Int32).toInt = 1 := rfl
    have z1 := isd.1
    have z2 := isd.2
    have := ts (x := (1 : Int32)) (y := hI h b 5) (by omega)
    rw [e2]
    exact ⟨by omega, by omega⟩
  refine s_ref eb ?_
  refine s_dI0q (zX5_nearest hF T r_x0 rb i_x1 i_x2 s1 hd) (fun o4 _ e4 i4 p4 => ?_)
  obtain ⟨m, g⟩ := o4
  replace e4 : g = h := e4
  subst e4
  refine s_br (fun _ => s_some T) (fun c1 => ?_)
  refine s_br (fun _ => s_some T) (fun c2 => ?_)
  obtain ⟨of, ef, rf⟩ := thR T rb (i := 1) (k2 := 35) rfl (by decide)
  obtain ⟨on, eo, ro⟩ := thR T rb (i := 0) (k2 := 34) rfl (by decide)
  refine s_ref eb (s_ref eb (s_ref ef (s_ref eb ?_)))
  refine s_gd (by rw [thN T rf (k := 35) (n := 2) rfl (by decide)]; exact rg_inB isd (by decide)) ?_
  refine s_br (fun _ => s_some T) (fun c3 => ?_)
  have nm1 : ¬ m.toInt = -1 := fun z => c1 (Int32.toInt_inj.mp z)
  have im : Rg 0 63 m := ⟨by have := i4.1; show (0 : Int) ≤ m.toInt; replace this : (-1 : Int) ≤ m.toInt := this; omega, i4.2⟩
  have hb := bit_at im (cmp0 c3)
  rw [bj_and, Bool.and_eq_true] at hb
  have m64 : m.toNatClampNeg < 64 := by have := rg_clamp (n := 63) im (by decide); omega
  have d2 : (hI g b 5).toNatClampNeg < 2 := by have := rg_clamp (n := 1) isd (by decide); omega
  have sm : SqB (c.2.1 50) m := sq_n (th_ps T rb eo ef m64 d2 hb.2).2.2 (by rw [clamp_i im.1])
  obtain ⟨_, k1, k2, k3⟩ := cas_ok i_x1 i4 i_x2 hd p4 c1 c2 s1 sm
  refine s_ref eb ?_
  refine s_dI0 (zX5_isHit hF T r_x0 rb i_x1 i2) (fun o14 _ e14 _ => ?_)
  obtain ⟨a14, g14⟩ := o14
  replace e14 : g14 = g := e14
  subst e14
  refine s_br (fun _ => ?_) (fun _ => s_some T)
  refine s_ref eb ?_
  refine s_dI0 (zX5_isHit hF T r_x0 rb k1 i2) (fun o17 _ e17 _ => ?_)
  obtain ⟨a17, g17⟩ := o17
  replace e17 : g17 = g14 := e17
  subst e17
  refine s_br (fun _ => ?_) (fun _ => s_some T)
  refine s_ref eb ?_
  refine s_dI0 (zX5_isHit hF T r_x0 rb k2 i2) (fun o20 _ e20 _ => ?_)
  obtain ⟨a20, g20⟩ := o20
  replace e20 : g20 = g17 := e20
  subst e20
  refine s_br (fun _ => ?_) (fun _ => s_some T)
  obtain ⟨L, eL, rL⟩ := thR T r_x0 (i := 0) (k2 := 2) rfl (by decide)
  refine s_ref eL ?_
  unfold sX5_plainMove
  refine s_cl (s_some ?_)
  have iy : Rg 0 11 (hI g20 L 4) := ⟨ry L eL, (thI T rL (k := 2) (i := 4) rfl : Rg (-1) 11 (hI g20 L 4)).2⟩
  refine s_cV (zX5_addMove hF m4 hA T r_x0 (rg_top _) (gq_plain i_x1 k2 iy (rg_m (rg_b rfl : Rg 2 2 (2 : Int32)) (by decide)) s1 k3)) (fun o24 T24 => ?_)
  refine s_q (fun v25 e25 => ?_)
  have ic := (thI T24 r_x0 (k := 6) (i := 6) rfl : Rg 0 4096 (hI o24 x0 6))
  have t1 : (1 : Int32).toInt = 1 := rfl
  have z1 := ic.1
  have z2 := ic.2
  have e5 := ts (x := hI o24 x0 6) (y := (1 : Int32)) (by omega)
  have ev : v25.toInt = (hI o24 x0 6).toInt - 1 := by rw [e25, e5, t1]
  exact ac_152 m4 hA r_x0 F T24 i_x3 ⟨by omega, by omega⟩ (by omega)

set_option maxRecDepth 20000 in
theorem zX3_inHand {ρ : Nat → Nat} {c : Cm} {F : Nat} (hF : 700000 ≤ F) {h : Hp} {x0 : Nat} {x1 : Int32} {x2 : Int32} (T : TH ρ c h) (r_x0 : ρ x0 = 4) (i_x1 : Rg (0) (1) (x1)) (i_x2 : Rg (-1) (11) (x2)) : Sat (sX3_inHand h x0 x1 x2) (ZI0 h (0) (31)) := by
  unfold sX3_inHand 
  obtain ⟨r_1, e_r_1, q_r_1⟩ := thR T r_x0 (k := 4) (i := 3) (k2 := 37) rfl (by decide)
  refine s_ref e_r_1 ?_
  refine s_gd (by rw [thN T q_r_1 (k := 37) (n := 2) rfl (by decide)]; exact rg_inB (i_x1 : Rg (0) (1) (x1)) (by decide)) ?_
  exact s_some ⟨rfl, (rg_and (rg_b rfl : Rg (31) (31) ((31 : Int32))) (by decide) : Rg (0) (31) (((((hJ h r_1 x1.toNatClampNeg).toUInt64 >>> (((5 : Int32) * x2).toInt64.toUInt64 &&& Int64.toUInt64 63)).toInt64).toInt32) &&& (31 : Int32)))⟩
set_option maxRecDepth 20000 in
theorem zX5_addDrops_46 {ρ : Nat → Nat} {c : Cm} {F : Nat} (hF : 700000 ≤ F) (m3 : c.2.1 3 = true) (m4 : c.2.1 4 = true) (hA : pmA c [(47, 999), (6, 6)]) : ∀ (f : Nat) {h : Hp} {x0 : Nat} {x1 : Int32} {x2 : Int32} {x3 : Int32}, TH ρ c h → ρ x0 = 6 → Rg (0) (63) (x1) → Rg (0) (1) (x2) → Rg (0) (12) (x3) → ( SqB (c.2.1 50) x1) → (12 - x3.toInt).toNat < f → Sat (sX5_addDrops_46 F f h x0 x1 x2 x3) (ZV ρ c) := by
  intro f
  induction f with
  | zero => intros; omega
  | succ f ih =>
    intro h x0 x1 x2 x3 T r_x0 i_x1 i_x2 i_x3 s1 hm
    rw [sX5_addDrops_46]
    unfold sX5_addDrops_101 sX5_addDrops_90 sX5_plainMove
    obtain ⟨C_46, hC_46⟩ : ∃ C : Int, C = x3.toInt := ⟨_, rfl⟩
    have hk_46 : ∀ {h : Hp} {x0 : Nat} {x1 : Int32} {x2 : Int32} {x3 : Int32}, TH ρ c h → ρ x0 = 6 → Rg (0) (63) (x1) → Rg (0) (1) (x2) → Rg (0) (12) (x3) → ( SqB (c.2.1 50) x1) → C_46 < x3.toInt → Sat (sX5_addDrops_46 F f h x0 x1 x2 x3) (ZV ρ c) := by
      intro h' x0' x1' x2' x3' T' r_x0' i_x1' i_x2' i_x3' s1' hl
      exact ih T' r_x0' i_x1' i_x2' i_x3' s1' (by have := i_x3'.1; have := i_x3'.2; omega)
    have hc_46 : C_46 ≤ x3.toInt := by omega
    obtain ⟨r_1, e_r_1, q_r_1⟩ := thR T r_x0 (k := 6) (i := 0) (k2 := 2) rfl (by decide)
    refine s_ref e_r_1 ?_
    refine s_br (fun c_1 => ?_) (fun c_1 => ?_)
    · have _ := c_1
      exact s_some (T)
    · have _ := c_1
      have i_f_2 : Rg (0) (11) (x3) := rg_lt1 (nle_lt c_1) i_x3 (thI T q_r_1 (k := 2) (i := 3) rfl : Rg (0) (12) ((hI h r_1 3)))
      have i_f_3 : Rg (1) (12) ((hI h r_1 3)) := rg_lt2 (nle_lt c_1) i_x3 (thI T q_r_1 (k := 2) (i := 3) rfl : Rg (0) (12) ((hI h r_1 3)))
      obtain ⟨r_3, e_r_3, q_r_3⟩ := thM T r_x0 (k := 6) (i := 4) (j := 3) (k2 := 4) rfl (by decide) rfl (by decide) m3
      refine s_ref e_r_3 ?_
      refine s_ref e_r_3 ?_
      refine s_dI0 (zX3_inHand hF T q_r_3 (thI T q_r_3 (k := 4) (i := 5) rfl : Rg (0) (1) ((hI h r_3 5))) (rg_m i_f_2 (by decide))) (fun o_5 eb_o_5 e_o_5 i_o_5 => ?_)
      have T_4 := th_eq e_o_5 T
      refine s_br (fun c_5 => ?_) (fun c_5 => ?_)
      · have _ := c_5
        have i_f_6 : Rg (0) (0) (o_5.1) := rg_le1 c_5 i_o_5 (rg_b rfl : Rg (0) (0) (0 : Int32))
        refine s_q (fun v_1q1 e_7 => ?_)
        have i_v_1q1 : Rg (1) (12) (v_1q1) := by rw [e_7]; exact (rg_add i_f_2 (rg_b rfl : Rg (1) (1) ((1 : Int32))) (by decide) : Rg (1) (12) (x3 + (1 : Int32)))
        have m_8 : (v_1q1).toInt = x3.toInt + 1 := by rw [e_7]; exact rg_inc i_f_2 (by decide)
        exact hk_46 T_4 r_x0 i_x1 i_x2 (rg_m i_v_1q1 (by decide)) s1 (by have := hc_46; omega)
      · have _ := c_5
        have i_f_9 : Rg (1) (31) (o_5.1) := rg_lt2 (nle_lt c_5) (rg_b rfl : Rg (0) (0) (0 : Int32)) i_o_5
        refine s_br (fun c_10 => ?_) (fun c_10 => ?_)
        · have _ := c_10
          have i_f_11 : Rg (0) (0) (x2) := rg_eq c_10 (rg_b rfl : Rg (0) (0) (0 : Int32))
          refine s_pu (fun o_1q2z e_12 => ?_)
          try dsimp only
          have i_o_1q2z : Rg (0) (67108863) (o_1q2z) := by rw [e_12]; exact (rg_or (n := 26) (rg_m (rg_or (n := 24) (rg_m (rg_or (n := 20) (rg_m (rg_or (n := 16) (rg_m (rg_or (n := 6) (rg_m i_x1 (by decide) : Rg (0) (63) (x1)) (rg_m (rg_shl (n := 6) (rg_m (rg_b rfl : Rg (0) (0) ((0 : Int32))) (by decide) : Rg (0) (0) ((0 : Int32))) (rg_m (rg_b rfl : Rg (6) (6) ((6 : Int32))) (by decide) : Rg (0) (6) ((6 : Int32))) (by decide) : Rg (0) (0) (((0 : Int32) <<< ((6 : Int32) &&& 31)))) (by decide) : Rg (0) (0) (((0 : Int32) <<< ((6 : Int32) &&& 31)))) (by decide) : Rg (0) (63) ((x1 ||| ((0 : Int32) <<< ((6 : Int32) &&& 31))))) (by decide) : Rg (0) (63) ((x1 ||| ((0 : Int32) <<< ((6 : Int32) &&& 31))))) (rg_m (rg_shl (n := 12) (rg_m i_f_2 (by decide) : Rg (0) (11) (x3)) (rg_m (rg_b rfl : Rg (12) (12) ((12 : Int32))) (by decide) : Rg (0) (12) ((12 : Int32))) (by decide) : Rg (0) (45056) ((x3 <<< ((12 : Int32) &&& 31)))) (by decide) : Rg (0) (45056) ((x3 <<< ((12 : Int32) &&& 31)))) (by decide) : Rg (0) (65535) (((x1 ||| ((0 : Int32) <<< ((6 : Int32) &&& 31))) ||| (x3 <<< ((12 : Int32) &&& 31))))) (by decide) : Rg (0) (65535) (((x1 ||| ((0 : Int32) <<< ((6 : Int32) &&& 31))) ||| (x3 <<< ((12 : Int32) &&& 31))))) (rg_m (rg_b rfl : Rg (983040) (983040) ((983040 : Int32))) (by decide) : Rg (0) (983040) ((983040 : Int32))) (by decide) : Rg (0) (1048575) ((((x1 ||| ((0 : Int32) <<< ((6 : Int32) &&& 31))) ||| (x3 <<< ((12 : Int32) &&& 31))) ||| (983040 : Int32)))) (by decide) : Rg (0) (1048575) ((((x1 ||| ((0 : Int32) <<< ((6 : Int32) &&& 31))) ||| (x3 <<< ((12 : Int32) &&& 31))) ||| (983040 : Int32)))) (rg_m (rg_b rfl : Rg (15728640) (15728640) ((15728640 : Int32))) (by decide) : Rg (0) (15728640) ((15728640 : Int32))) (by decide) : Rg (0) (16777215) (((((x1 ||| ((0 : Int32) <<< ((6 : Int32) &&& 31))) ||| (x3 <<< ((12 : Int32) &&& 31))) ||| (983040 : Int32)) ||| (15728640 : Int32)))) (by decide) : Rg (0) (16777215) (((((x1 ||| ((0 : Int32) <<< ((6 : Int32) &&& 31))) ||| (x3 <<< ((12 : Int32) &&& 31))) ||| (983040 : Int32)) ||| (15728640 : Int32)))) (rg_m (rg_shl (n := 24) (rg_m (rg_b rfl : Rg (3) (3) ((3 : Int32))) (by decide) : Rg (0) (3) ((3 : Int32))) (rg_m (rg_b rfl : Rg (24) (24) ((24 : Int32))) (by decide) : Rg (0) (24) ((24 : Int32))) (by decide) : Rg (0) (50331648) (((3 : Int32) <<< ((24 : Int32) &&& 31)))) (by decide) : Rg (0) (50331648) (((3 : Int32) <<< ((24 : Int32) &&& 31)))) (by decide) : Rg (0) (67108863) (((((x1 ||| ((0 : Int32) <<< ((6 : Int32) &&& 31))) ||| (x3 <<< ((12 : Int32) &&& 31))) ||| (983040 : Int32)) ||| (15728640 : Int32)) ||| ((3 : Int32) <<< ((24 : Int32) &&& 31))))
          refine s_cV (zX5_addMove hF m4 (pmA_s hA rfl) T_4 r_x0 (rg_m i_o_1q2z (by decide)) (by rw [e_12]; exact (gq_plain ((rg_m (rg_b rfl : Rg (0) (0) ((0 : Int32))) (by decide)) : Rg (0) (63) ((0 : Int32))) (i_x1 : Rg (0) (63) (x1)) (i_f_2 : Rg (0) (11) (x3)) ((rg_m (rg_b rfl : Rg (3) (3) ((3 : Int32))) (by decide)) : Rg (0) (3) ((3 : Int32))) (Or.inr (by decide)) s1))) (fun o_2q2 T_13 => ?_)
          refine s_q (fun v_1q3 e_14 => ?_)
          have i_v_1q3 : Rg (1) (12) (v_1q3) := by rw [e_14]; exact (rg_add i_f_2 (rg_b rfl : Rg (1) (1) ((1 : Int32))) (by decide) : Rg (1) (12) (x3 + (1 : Int32)))
          have m_15 : (v_1q3).toInt = x3.toInt + 1 := by rw [e_14]; exact rg_inc i_f_2 (by decide)
          exact hk_46 T_13 r_x0 i_x1 (rg_m i_f_11 (by decide)) (rg_m i_v_1q3 (by decide)) s1 (by have := hc_46; omega)
        · have _ := c_10
          have i_f_16 : Rg (1) (1) (x2) := rg_nlo c_10 i_x2 (rg_b rfl : Rg (0) (0) (0 : Int32))
          refine s_ref (hr_e e_o_5 e_r_1) ?_
          refine s_dI0 (zX1_becomesOthers hF T_4 q_r_1 (rg_m i_f_2 (by decide))) (fun o_9 eb_o_9 e_o_9 i_o_9 => ?_)
          have T_17 := th_eq e_o_9 T_4
          refine s_br (fun c_18 => ?_) (fun c_18 => ?_)
          · have _ := c_18
            have i_f_19 : Rg (0) (0) (o_9.1) := rg_eq c_18 (rg_b rfl : Rg (0) (0) (0 : Int32))
            refine s_pu (fun o_1q4z e_20 => ?_)
            try dsimp only
            have i_o_1q4z : Rg (0) (67108863) (o_1q4z) := by rw [e_20]; exact (rg_or (n := 26) (rg_m (rg_or (n := 24) (rg_m (rg_or (n := 20) (rg_m (rg_or (n := 16) (rg_m (rg_or (n := 6) (rg_m i_x1 (by decide) : Rg (0) (63) (x1)) (rg_m (rg_shl (n := 6) (rg_m (rg_b rfl : Rg (0) (0) ((0 : Int32))) (by decide) : Rg (0) (0) ((0 : Int32))) (rg_m (rg_b rfl : Rg (6) (6) ((6 : Int32))) (by decide) : Rg (0) (6) ((6 : Int32))) (by decide) : Rg (0) (0) (((0 : Int32) <<< ((6 : Int32) &&& 31)))) (by decide) : Rg (0) (0) (((0 : Int32) <<< ((6 : Int32) &&& 31)))) (by decide) : Rg (0) (63) ((x1 ||| ((0 : Int32) <<< ((6 : Int32) &&& 31))))) (by decide) : Rg (0) (63) ((x1 ||| ((0 : Int32) <<< ((6 : Int32) &&& 31))))) (rg_m (rg_shl (n := 12) (rg_m i_f_2 (by decide) : Rg (0) (11) (x3)) (rg_m (rg_b rfl : Rg (12) (12) ((12 : Int32))) (by decide) : Rg (0) (12) ((12 : Int32))) (by decide) : Rg (0) (45056) ((x3 <<< ((12 : Int32) &&& 31)))) (by decide) : Rg (0) (45056) ((x3 <<< ((12 : Int32) &&& 31)))) (by decide) : Rg (0) (65535) (((x1 ||| ((0 : Int32) <<< ((6 : Int32) &&& 31))) ||| (x3 <<< ((12 : Int32) &&& 31))))) (by decide) : Rg (0) (65535) (((x1 ||| ((0 : Int32) <<< ((6 : Int32) &&& 31))) ||| (x3 <<< ((12 : Int32) &&& 31))))) (rg_m (rg_b rfl : Rg (983040) (983040) ((983040 : Int32))) (by decide) : Rg (0) (983040) ((983040 : Int32))) (by decide) : Rg (0) (1048575) ((((x1 ||| ((0 : Int32) <<< ((6 : Int32) &&& 31))) ||| (x3 <<< ((12 : Int32) &&& 31))) ||| (983040 : Int32)))) (by decide) : Rg (0) (1048575) ((((x1 ||| ((0 : Int32) <<< ((6 : Int32) &&& 31))) ||| (x3 <<< ((12 : Int32) &&& 31))) ||| (983040 : Int32)))) (rg_m (rg_b rfl : Rg (15728640) (15728640) ((15728640 : Int32))) (by decide) : Rg (0) (15728640) ((15728640 : Int32))) (by decide) : Rg (0) (16777215) (((((x1 ||| ((0 : Int32) <<< ((6 : Int32) &&& 31))) ||| (x3 <<< ((12 : Int32) &&& 31))) ||| (983040 : Int32)) ||| (15728640 : Int32)))) (by decide) : Rg (0) (16777215) (((((x1 ||| ((0 : Int32) <<< ((6 : Int32) &&& 31))) ||| (x3 <<< ((12 : Int32) &&& 31))) ||| (983040 : Int32)) ||| (15728640 : Int32)))) (rg_m (rg_shl (n := 24) (rg_m (rg_b rfl : Rg (3) (3) ((3 : Int32))) (by decide) : Rg (0) (3) ((3 : Int32))) (rg_m (rg_b rfl : Rg (24) (24) ((24 : Int32))) (by decide) : Rg (0) (24) ((24 : Int32))) (by decide) : Rg (0) (50331648) (((3 : Int32) <<< ((24 : Int32) &&& 31)))) (by decide) : Rg (0) (50331648) (((3 : Int32) <<< ((24 : Int32) &&& 31)))) (by decide) : Rg (0) (67108863) (((((x1 ||| ((0 : Int32) <<< ((6 : Int32) &&& 31))) ||| (x3 <<< ((12 : Int32) &&& 31))) ||| (983040 : Int32)) ||| (15728640 : Int32)) ||| ((3 : Int32) <<< ((24 : Int32) &&& 31))))
            refine s_cV (zX5_addMove hF m4 (pmA_s hA rfl) T_17 r_x0 (rg_m i_o_1q4z (by decide)) (by rw [e_20]; exact (gq_plain ((rg_m (rg_b rfl : Rg (0) (0) ((0 : Int32))) (by decide)) : Rg (0) (63) ((0 : Int32))) (i_x1 : Rg (0) (63) (x1)) (i_f_2 : Rg (0) (11) (x3)) ((rg_m (rg_b rfl : Rg (3) (3) ((3 : Int32))) (by decide)) : Rg (0) (3) ((3 : Int32))) (Or.inr (by decide)) s1))) (fun o_2q4 T_21 => ?_)
            refine s_q (fun v_1q5 e_22 => ?_)
            have i_v_1q5 : Rg (1) (12) (v_1q5) := by rw [e_22]; exact (rg_add i_f_2 (rg_b rfl : Rg (1) (1) ((1 : Int32))) (by decide) : Rg (1) (12) (x3 + (1 : Int32)))
            have m_23 : (v_1q5).toInt = x3.toInt + 1 := by rw [e_22]; exact rg_inc i_f_2 (by decide)
            exact hk_46 T_21 r_x0 i_x1 (rg_m i_f_16 (by decide)) (rg_m i_v_1q5 (by decide)) s1 (by have := hc_46; omega)
          · have _ := c_18
            have i_f_24 : Rg (1) (1) (o_9.1) := rg_nlo c_18 i_o_9 (rg_b rfl : Rg (0) (0) (0 : Int32))
            refine s_q (fun v_1q6 e_25 => ?_)
            have i_v_1q6 : Rg (1) (12) (v_1q6) := by rw [e_25]; exact (rg_add i_f_2 (rg_b rfl : Rg (1) (1) ((1 : Int32))) (by decide) : Rg (1) (12) (x3 + (1 : Int32)))
            have m_26 : (v_1q6).toInt = x3.toInt + 1 := by rw [e_25]; exact rg_inc i_f_2 (by decide)
            exact hk_46 T_17 r_x0 i_x1 (rg_m i_f_16 (by decide)) (rg_m i_v_1q6 (by decide)) s1 (by have := hc_46; omega)
set_option maxRecDepth 20000 in
theorem zX5_addDrops {ρ : Nat → Nat} {c : Cm} {F : Nat} (hF : 700000 ≤ F) (m3 : c.2.1 3 = true) (m4 : c.2.1 4 = true) (hA : pmA c [(47, 999), (6, 6)]) {h : Hp} {x0 : Nat} {x1 : Int32} (T : TH ρ c h) (r_x0 : ρ x0 = 6) (i_x1 : Rg (0) (63) (x1)) (s1 :  SqB (c.2.1 50) x1) : Sat (sX5_addDrops F h x0 x1) (ZV ρ c) := by
  unfold sX5_addDrops sX5_addDrops_43 sX5_addDrops_38
  obtain ⟨r_1, e_r_1, q_r_1⟩ := thM T r_x0 (k := 6) (i := 4) (j := 3) (k2 := 4) rfl (by decide) rfl (by decide) m3
  refine s_ref e_r_1 ?_
  obtain ⟨r_2, e_r_2, q_r_2⟩ := thR T q_r_1 (k := 4) (i := 0) (k2 := 34) rfl (by decide)
  refine s_ref e_r_2 ?_
  refine s_gd (by rw [thN T q_r_2 (k := 34) (n := 64) rfl (by decide)]; exact rg_inB (i_x1 : Rg (0) (63) (x1)) (by decide)) ?_
  refine s_br (fun c_1 => ?_) (fun c_1 => ?_)
  · have _ := c_1
    have i_f_2 : Rg (-1) (-1) ((hI h r_2 x1.toNatClampNeg)) := rg_eq c_1 (rg_b rfl : Rg (-1) (-1) ((- 1 : Int32)))
    obtain ⟨r_5, e_r_5, q_r_5⟩ := thR T r_x0 (k := 6) (i := 0) (k2 := 2) rfl (by decide)
    refine s_ref e_r_5 ?_
    refine s_dI0 (zX1_isLast hF T q_r_5 i_x1 (rg_m (rg_b rfl : Rg (0) (0) ((0 : Int32))) (by decide))) (fun o_6 eb_o_6 e_o_6 i_o_6 => ?_)
    have T_3 := th_eq e_o_6 T
    refine s_br (fun c_4 => ?_) (fun c_4 => ?_)
    · have _ := c_4
      have i_f_5 : Rg (0) (0) (o_6.1) := rg_eq c_4 (rg_b rfl : Rg (0) (0) (0 : Int32))
      refine s_ref (hr_e e_o_6 e_r_5) ?_
      refine s_dI0 (zX1_isLast hF T_3 q_r_5 i_x1 (rg_m (rg_b rfl : Rg (1) (1) ((1 : Int32))) (by decide))) (fun o_9 eb_o_9 e_o_9 i_o_9 => ?_)
      have T_6 := th_eq e_o_9 T_3
      refine s_br (fun c_7 => ?_) (fun c_7 => ?_)
      · have _ := c_7
        have i_f_8 : Rg (0) (0) (o_9.1) := rg_eq c_7 (rg_b rfl : Rg (0) (0) (0 : Int32))
        have m_9 : Rg (0) (12) ((0 : Int32)) := (rg_m (rg_b rfl : Rg (0) (0) ((0 : Int32))) (by decide))
        exact zX5_addDrops_46 hF m3 m4 (pmA_s hA rfl) F T_6 r_x0 i_x1 (rg_m (rg_b rfl : Rg (0) (0) ((0 : Int32))) (by decide)) (rg_m (rg_b rfl : Rg (0) (0) ((0 : Int32))) (by decide)) s1 (by have := m_9.1; have := m_9.2; omega)
      · have _ := c_7
        have i_f_10 : Rg (1) (1) (o_9.1) := rg_nlo c_7 i_o_9 (rg_b rfl : Rg (0) (0) (0 : Int32))
        have m_11 : Rg (0) (12) ((0 : Int32)) := (rg_m (rg_b rfl : Rg (0) (0) ((0 : Int32))) (by decide))
        exact zX5_addDrops_46 hF m3 m4 (pmA_s hA rfl) F T_6 r_x0 i_x1 (rg_m (rg_b rfl : Rg (1) (1) ((1 : Int32))) (by decide)) (rg_m (rg_b rfl : Rg (0) (0) ((0 : Int32))) (by decide)) s1 (by have := m_11.1; have := m_11.2; omega)
    · have _ := c_4
      have i_f_12 : Rg (1) (1) (o_6.1) := rg_nlo c_4 i_o_6 (rg_b rfl : Rg (0) (0) (0 : Int32))
      have m_13 : Rg (0) (12) ((0 : Int32)) := (rg_m (rg_b rfl : Rg (0) (0) ((0 : Int32))) (by decide))
      exact zX5_addDrops_46 hF m3 m4 (pmA_s hA rfl) F T_3 r_x0 i_x1 (rg_m (rg_b rfl : Rg (1) (1) ((1 : Int32))) (by decide)) (rg_m (rg_b rfl : Rg (0) (0) ((0 : Int32))) (by decide)) s1 (by have := m_13.1; have := m_13.2; omega)
  · have _ := c_1
    exact s_some (T)
theorem zX5_takenBy {ρ : Nat → Nat} {c : Cm} {F : Nat} (hF : 700000 ≤ F) {h : Hp} {x0 : Int32} (T : TH ρ c h) (i_x0 : Rg (-2147483648) (2147483647) (x0)) (gx : GMq (c.2.1 50) x0) : Sat (sX5_takenBy h x0) (ZI0 h (-1) (11)) := by
  unfold sX5_takenBy sX5_takenBy_19
  refine s_q (fun v e => ?_)
  refine s_br (fun c1 => s_some ⟨rfl, rg_b rfl⟩) (fun c1 => ?_)
  rcases gx.1.2.2 with w | w
  · exact s_some ⟨rfl, by rw [e]; exact rg_m w (by decide)⟩
  · exact absurd (e.trans w) c1

set_option maxRecDepth 20000 in
theorem zX5_choices_25 {ρ : Nat → Nat} {c : Cm} {h0 : Hp} {F : Nat} (hF : 700000 ≤ F) (m3 : c.2.1 3 = true) {h : Hp} {x0 : Nat} {x1 : Int32} {t0 : Int32} (E : h = h0) (T : TH ρ c h) (r_x0 : ρ x0 = 6) (i_x1 : Rg (0) (536870911) (x1)) (i_t0 : Rg (0) (1) (t0)) (gx : (GMq (c.2.1 50) x1)) : Sat (sX5_choices_25 h x0 x1 t0) (ZI0 h0 (0) (6)) := by
  unfold sX5_choices_25 sX5_comeTo sX5_choices_66 sX5_choices_67 sX5_manOf
  refine s_br (fun c_1 => ?_) (fun c_1 => ?_)
  · have _ := c_1
    have i_f_2 : Rg (0) (0) (t0) := rg_eq c_1 (rg_b rfl : Rg (0) (0) (0 : Int32))
    obtain ⟨r_2, e_r_2, q_r_2⟩ := thR T r_x0 (k := 6) (i := 0) (k2 := 2) rfl (by decide)
    refine s_ref e_r_2 ?_
    refine s_pu (fun o_3z e_3 => ?_)
    try dsimp only
    have i_o_3z : Rg (0) (63) (o_3z) := by rw [e_3]; exact (rg_and (rg_b rfl : Rg (63) (63) ((63 : Int32))) (by decide) : Rg (0) (63) (x1 &&& (63 : Int32)))
    obtain ⟨r_4, e_r_4, q_r_4⟩ := thM T r_x0 (k := 6) (i := 4) (j := 3) (k2 := 4) rfl (by decide) rfl (by decide) m3
    refine s_ref e_r_4 ?_
    refine s_dI0 (zX1_isLast hF T q_r_2 i_o_3z (thI T q_r_4 (k := 4) (i := 5) rfl : Rg (0) (1) ((hI h r_4 5)))) (fun o_5 eb_o_5 e_o_5 i_o_5 => ?_)
    have T_4 := th_eq e_o_5 T
    refine s_br (fun c_5 => ?_) (fun c_5 => ?_)
    · have _ := c_5
      have i_f_6 : Rg (0) (0) (o_5.1) := rg_eq c_5 (rg_b rfl : Rg (0) (0) (0 : Int32))
      exact s_some ⟨(e_o_5.trans E), (rg_m (rg_b rfl : Rg (0) (0) ((0 : Int32))) (by decide))⟩
    · have _ := c_5
      have i_f_7 : Rg (1) (1) (o_5.1) := rg_nlo c_5 i_o_5 (rg_b rfl : Rg (0) (0) (0 : Int32))
      refine s_ref (hr_e e_o_5 e_r_2) ?_
      obtain ⟨r_8, e_r_8, q_r_8⟩ := thR T_4 q_r_2 (k := 2) (i := 18) (k2 := 31) rfl (by decide)
      refine s_ref e_r_8 ?_
      refine s_pu (fun o_9z e_8 => ?_)
      try dsimp only
      have i_o_9z : Rg (0) (11) (o_9z) := by rw [e_8]; exact (gq_man gx : Rg (0) (11) ((x1 >>> ((12 : Int32) &&& 31)) &&& (15 : Int32)))
      refine s_gd (by rw [thN T_4 q_r_8 (k := 31) (n := 12) rfl (by decide)]; exact rg_inB (i_o_9z : Rg (0) (11) (o_9z)) (by decide)) ?_
      exact s_some ⟨(e_o_5.trans E), (thI T_4 q_r_8 (k := 31) rfl : Rg (0) (6) ((hI o_5.2 r_8 o_9z.toNatClampNeg)))⟩
  · have _ := c_1
    have i_f_9 : Rg (1) (1) (t0) := rg_nlo c_1 i_t0 (rg_b rfl : Rg (0) (0) (0 : Int32))
    exact s_some ⟨E, (rg_m (rg_b rfl : Rg (0) (0) ((0 : Int32))) (by decide))⟩
set_option maxRecDepth 20000 in
theorem zX5_choices {ρ : Nat → Nat} {c : Cm} {F : Nat} (hF : 700000 ≤ F) (m3 : c.2.1 3 = true) {h : Hp} {x0 : Nat} {x1 : Int32} (T : TH ρ c h) (r_x0 : ρ x0 = 6) (i_x1 : Rg (0) (536870911) (x1)) (gx : GMq (c.2.1 50) x1) : Sat (sX5_choices h x0 x1) (ZI0 h (0) (6)) := by
  unfold sX5_choices sX5_choices_24
  obtain ⟨r_1, e_r_1, q_r_1⟩ := thR T r_x0 (k := 6) (i := 0) (k2 := 2) rfl (by decide)
  refine s_ref e_r_1 ?_
  refine s_dI0 (zX1_has hF T q_r_1 (rg_m (rg_b rfl : Rg (8) (8) ((8 : Int32))) (by decide))) (fun o_2 eb_o_2 e_o_2 i_o_2 => ?_)
  have T_1 := th_eq e_o_2 T
  refine s_br (fun c_2 => ?_) (fun c_2 => ?_)
  · have _ := c_2
    have i_f_3 : Rg (0) (0) (o_2.1) := rg_eq c_2 (rg_b rfl : Rg (0) (0) (0 : Int32))
    exact zX5_choices_25 hF m3 (e_o_2.trans rfl) T_1 r_x0 i_x1 (rg_m (rg_b rfl : Rg (0) (0) ((0 : Int32))) (by decide)) gx
  · have _ := c_2
    have i_f_4 : Rg (1) (1) (o_2.1) := rg_nlo c_2 i_o_2 (rg_b rfl : Rg (0) (0) (0 : Int32))
    refine s_dI0 (zX5_takenBy hF T_1 (rg_m i_x1 (by decide)) gx) (fun o_4 eb_o_4 e_o_4 i_o_4 => ?_)
    have T_5 := th_eq e_o_4 T_1
    refine s_br (fun c_6 => ?_) (fun c_6 => ?_)
    · have _ := c_6
      have i_f_7 : Rg (-1) (-1) (o_4.1) := rg_eq c_6 (rg_b rfl : Rg (-1) (-1) ((- 1 : Int32)))
      exact zX5_choices_25 hF m3 (e_o_4.trans (e_o_2.trans rfl)) T_5 r_x0 i_x1 (rg_m (rg_b rfl : Rg (0) (0) ((0 : Int32))) (by decide)) gx
    · have _ := c_6
      have i_f_8 : Rg (0) (11) (o_4.1) := rg_nlo c_6 i_o_4 (rg_b rfl : Rg (-1) (-1) ((- 1 : Int32)))
      exact zX5_choices_25 hF m3 (e_o_4.trans (e_o_2.trans rfl)) T_5 r_x0 i_x1 (rg_m (rg_b rfl : Rg (1) (1) ((1 : Int32))) (by decide)) gx
set_option maxRecDepth 20000 in
theorem zX5_leads_94 {ρ : Nat → Nat} {c : Cm} {h0 : Hp} {F : Nat} (hF : 700000 ≤ F) {h : Hp} {x1 : Nat} {x3 : Int32} {x4 : Int32} {x5 : Int64} (E : h = h0) (T : TH ρ c h) (r_x1 : ρ x1 = 4) (i_x3 : Rg (0) (1) (x3)) (i_x4 : Rg (0) (63) (x4)) : Sat (sX5_leads_94 h x1 x3 x4 x5) (ZI0 h0 (0) (1)) := by
  unfold sX5_leads_94 sX5_leads_115 sX5_leads_129 sX5_leads_138
  obtain ⟨r_1, e_r_1, q_r_1⟩ := thR T r_x1 (k := 4) (i := 1) (k2 := 35) rfl (by decide)
  refine s_ref e_r_1 ?_
  refine s_gd (by rw [thN T q_r_1 (k := 35) (n := 2) rfl (by decide)]; exact rg_inB ((rg_sub (rg_b rfl : Rg (1) (1) ((1 : Int32))) i_x3 (by decide) : Rg (0) (1) (((1 : Int32) - x3))) : Rg (0) (1) (((1 : Int32) - x3))) (by decide)) ?_
  refine s_br (fun c_1 => ?_) (fun c_1 => ?_)
  · have _ := c_1
    refine s_br (fun c_2 => ?_) (fun c_2 => ?_)
    · have _ := c_2
      refine s_br (fun c_3 => ?_) (fun c_3 => ?_)
      · have _ := c_3
        have i_f_4 : Rg (0) (0) ((x4 &&& (2 : Int32))) := rg_eq c_3 (rg_b rfl : Rg (0) (0) (0 : Int32))
        refine s_gd (rg_bool (rg_m (rg_b rfl : Rg (1) (1) ((1 : Int32))) (by decide))) ?_
        exact s_some ⟨E, (rg_m (rg_b rfl : Rg (1) (1) ((1 : Int32))) (by decide))⟩
      · have _ := c_3
        have i_f_5 : Rg (1) (2) ((x4 &&& (2 : Int32))) := rg_nlo c_3 (rg_and (rg_b rfl : Rg (2) (2) ((2 : Int32))) (by decide) : Rg (0) (2) ((x4 &&& (2 : Int32)))) (rg_b rfl : Rg (0) (0) (0 : Int32))
        refine s_gd (rg_bool (rg_m (rg_b rfl : Rg (0) (0) ((0 : Int32))) (by decide))) ?_
        exact s_some ⟨E, (rg_m (rg_b rfl : Rg (0) (0) ((0 : Int32))) (by decide))⟩
    · have _ := c_2
      exact (rc_ne c_2 (rg_b rfl : Rg (0) (0) ((0 : Int32))) (rg_b rfl : Rg (0) (0) (0 : Int32))).elim
  · have _ := c_1
    refine s_br (fun c_6 => ?_) (fun c_6 => ?_)
    · have _ := c_6
      exact (rc_eq c_6 (rg_b rfl : Rg (1) (1) ((1 : Int32))) (rg_b rfl : Rg (0) (0) (0 : Int32)) (by decide)).elim
    · have _ := c_6
      refine s_br (fun c_7 => ?_) (fun c_7 => ?_)
      · have _ := c_7
        have i_f_8 : Rg (0) (0) ((x4 &&& (1 : Int32))) := rg_eq c_7 (rg_b rfl : Rg (0) (0) (0 : Int32))
        refine s_gd (rg_bool (rg_m (rg_b rfl : Rg (1) (1) ((1 : Int32))) (by decide))) ?_
        exact s_some ⟨E, (rg_m (rg_b rfl : Rg (1) (1) ((1 : Int32))) (by decide))⟩
      · have _ := c_7
        have i_f_9 : Rg (1) (1) ((x4 &&& (1 : Int32))) := rg_nlo c_7 (rg_and (rg_b rfl : Rg (1) (1) ((1 : Int32))) (by decide) : Rg (0) (1) ((x4 &&& (1 : Int32)))) (rg_b rfl : Rg (0) (0) (0 : Int32))
        refine s_gd (rg_bool (rg_m (rg_b rfl : Rg (0) (0) ((0 : Int32))) (by decide))) ?_
        exact s_some ⟨E, (rg_m (rg_b rfl : Rg (0) (0) ((0 : Int32))) (by decide))⟩
set_option maxRecDepth 20000 in
theorem zX5_leads {ρ : Nat → Nat} {c : Cm} {F : Nat} (hF : 700000 ≤ F) {h : Hp} {x0 : Nat} {x1 : Nat} {x2 : Int32} {x3 : Int32} (T : TH ρ c h) (r_x0 : ρ x0 = 6) (r_x1 : ρ x1 = 4) (i_x2 : Rg (0) (172031) (x2)) (i_x3 : Rg (0) (1) (x3)) : Sat (sX5_leads h x0 x1 x2 x3) (ZI0 h (0) (1)) := by
  unfold sX5_leads sX5_leads_62
  obtain ⟨r_1, e_r_1, q_r_1⟩ := thR T r_x0 (k := 6) (i := 1) (k2 := 11) rfl (by decide)
  refine s_ref e_r_1 ?_
  obtain ⟨r_2, e_r_2, q_r_2⟩ := thR T q_r_1 (k := 11) (i := 1) (k2 := 51) rfl (by decide)
  refine s_ref e_r_2 ?_
  refine s_gd (by rw [thN T q_r_2 (k := 51) (n := 172032) rfl (by decide)]; exact rg_inB (i_x2 : Rg (0) (172031) (x2)) (by decide)) ?_
  refine s_q (fun v_4 e_1 => ?_)
  have i_v_4 : Rg (0) (63) (v_4) := by rw [e_1]; exact (rg_and (rg_b rfl : Rg (63) (63) ((63 : Int32))) (by decide) : Rg (0) (63) (((hI h r_2 x2.toNatClampNeg) >>> ((6 : Int32) &&& 31)) &&& (63 : Int32)))
  refine s_ref e_r_1 ?_
  refine s_ref e_r_2 ?_
  refine s_gd (by rw [thN T q_r_2 (k := 51) (n := 172032) rfl (by decide)]; exact rg_inB (i_x2 : Rg (0) (172031) (x2)) (by decide)) ?_
  refine s_q (fun v_8 e_2 => ?_)
  obtain ⟨r_9, e_r_9, q_r_9⟩ := thR T r_x1 (k := 4) (i := 1) (k2 := 35) rfl (by decide)
  refine s_ref e_r_9 ?_
  refine s_gd (by rw [thN T q_r_9 (k := 35) (n := 2) rfl (by decide)]; exact rg_inB (i_x3 : Rg (0) (1) (x3)) (by decide)) ?_
  refine s_br (fun c_3 => ?_) (fun c_3 => ?_)
  · have _ := c_3
    refine s_ref e_r_1 ?_
    refine s_dJ0 (zX3_occupied hF T r_x1) (fun o_13 eb_o_13 e_o_13 => ?_)
    have T_4 := th_eq e_o_13 T
    refine s_dI0 (zX10_isOpen hF T_4 q_r_1 i_x2) (fun o_14 eb_o_14 e_o_14 i_o_14 => ?_)
    have T_5 := th_eq e_o_14 T_4
    refine s_br (fun c_6 => ?_) (fun c_6 => ?_)
    · have _ := c_6
      have i_f_7 : Rg (0) (0) (o_14.1) := rg_eq c_6 (rg_b rfl : Rg (0) (0) (0 : Int32))
      exact s_some ⟨(e_o_14.trans (e_o_13.trans rfl)), (rg_m (rg_b rfl : Rg (0) (0) ((0 : Int32))) (by decide))⟩
    · have _ := c_6
      have i_f_8 : Rg (1) (1) (o_14.1) := rg_nlo c_6 i_o_14 (rg_b rfl : Rg (0) (0) (0 : Int32))
      refine s_br (fun c_9 => ?_) (fun c_9 => ?_)
      · have _ := c_9
        have i_f_10 : Rg (0) (0) ((v_4 &&& (32 : Int32))) := rg_eq c_9 (rg_b rfl : Rg (0) (0) (0 : Int32))
        exact zX5_leads_94 hF (e_o_14.trans (e_o_13.trans rfl)) T_5 r_x1 i_x3 i_v_4
      · have _ := c_9
        have i_f_11 : Rg (1) (32) ((v_4 &&& (32 : Int32))) := rg_nlo c_9 (rg_and (rg_b rfl : Rg (32) (32) ((32 : Int32))) (by decide) : Rg (0) (32) ((v_4 &&& (32 : Int32)))) (rg_b rfl : Rg (0) (0) (0 : Int32))
        refine s_br (fun c_12 => ?_) (fun c_12 => ?_)
        · have _ := c_12
          refine s_br (fun c_13 => ?_) (fun c_13 => ?_)
          · have _ := c_13
            exact zX5_leads_94 hF (e_o_14.trans (e_o_13.trans rfl)) T_5 r_x1 i_x3 i_v_4
          · have _ := c_13
            exact s_some ⟨(e_o_14.trans (e_o_13.trans rfl)), (rg_m (rg_b rfl : Rg (1) (1) ((1 : Int32))) (by decide))⟩
        · have _ := c_12
          exact zX5_leads_94 hF (e_o_14.trans (e_o_13.trans rfl)) T_5 r_x1 i_x3 i_v_4
  · have _ := c_3
    exact s_some ⟨rfl, (rg_m (rg_b rfl : Rg (0) (0) ((0 : Int32))) (by decide))⟩
set_option maxRecDepth 20000 in
theorem zX3_passSquare {ρ : Nat → Nat} {c : Cm} {F : Nat} (hF : 700000 ≤ F) {h : Hp} {x0 : Nat} {x1 : Int32} (T : TH ρ c h) (r_x0 : ρ x0 = 4) (i_x1 : Rg (0) (6) (x1)) : Sat (sX3_passSquare h x0 x1) (ZI0 h (0) (63)) := by
  unfold sX3_passSquare 
  exact s_some ⟨rfl, (rg_and (rg_b rfl : Rg (63) (63) ((63 : Int32))) (by decide) : Rg (0) (63) (((((hJ h x0 9).toUInt64 >>> (((3 : Int32) + ((6 : Int32) * x1)).toInt64.toUInt64 &&& Int64.toUInt64 63)).toInt64).toInt32) &&& (63 : Int32)))⟩
set_option maxRecDepth 20000 in
theorem zX5_moveAlong_154 {ρ : Nat → Nat} {c : Cm} {h0 : Hp} {F : Nat} (hF : 700000 ≤ F) {h : Hp} {x5 : Int32} {x6 : Int32} {x9 : Int32} (E : h = h0) (T : TH ρ c h) (i_x5 : Rg (0) (63) (x5)) (i_x6 : Rg (0) (7) (x6)) (i_x9 : Rg (0) (33554431) (x9)) (g9 : (GMq (c.2.1 50) x9)) : Sat (sX5_moveAlong_154 h x5 x6 x9) (ZQ (ZI0 h0 (0) (536870911)) (fun o => GMq (c.2.1 50) o.1)) := by
  unfold sX5_moveAlong_154 sX5_moveAlong_179 sX5_moveAlong_181
  refine s_br (fun c_1 => ?_) (fun c_1 => ?_)
  · have _ := c_1
    have i_f_2 : Rg (0) (0) ((x5 &&& (16 : Int32))) := rg_eq c_1 (rg_b rfl : Rg (0) (0) (0 : Int32))
    exact s_some ⟨⟨E, (rg_m i_x9 (by decide))⟩, g9⟩
  · have _ := c_1
    have i_f_3 : Rg (1) (16) ((x5 &&& (16 : Int32))) := rg_nlo c_1 (rg_and (rg_b rfl : Rg (16) (16) ((16 : Int32))) (by decide) : Rg (0) (16) ((x5 &&& (16 : Int32)))) (rg_b rfl : Rg (0) (0) (0 : Int32))
    refine s_br (fun c_4 => ?_) (fun c_4 => ?_)
    · have _ := c_4
      have i_f_5 : Rg (0) (1) (x6) := rg_le1 c_4 i_x6 (rg_b rfl : Rg (1) (1) ((1 : Int32)))
      exact s_some ⟨⟨E, (rg_m i_x9 (by decide))⟩, g9⟩
    · have _ := c_4
      have i_f_6 : Rg (2) (7) (x6) := rg_lt2 (nle_lt c_4) (rg_b rfl : Rg (1) (1) ((1 : Int32))) i_x6
      exact s_some ⟨⟨E, (rg_or (n := 29) (rg_m i_x9 (by decide) : Rg (0) (33554431) (x9)) (rg_m (rg_shl (n := 26) (rg_m i_f_6 (by decide) : Rg (0) (7) (x6)) (rg_m (rg_b rfl : Rg (26) (26) ((26 : Int32))) (by decide) : Rg (0) (26) ((26 : Int32))) (by decide) : Rg (0) (469762048) ((x6 <<< ((26 : Int32) &&& 31)))) (by decide) : Rg (0) (469762048) ((x6 <<< ((26 : Int32) &&& 31)))) (by decide) : Rg (0) (536870911) ((x9 ||| (x6 <<< ((26 : Int32) &&& 31)))))⟩, (gq_pass g9 ((rg_m i_f_6 (by decide)) : Rg (0) (7) (x6)))⟩
set_option maxRecDepth 20000 in
theorem zX5_moveAlong_129 {ρ : Nat → Nat} {c : Cm} {h0 : Hp} {F : Nat} (hF : 700000 ≤ F) {h : Hp} {x5 : Int32} {x6 : Int32} {x8 : Int32} {t0 : Int32} {t1 : Int32} {t2 : Int32} {t3 : Int32} (E : h = h0) (T : TH ρ c h) (i_x5 : Rg (0) (63) (x5)) (i_x6 : Rg (0) (7) (x6)) (i_x8 : Rg (-2) (23) (x8)) (i_t0 : Rg (0) (1) (t0)) (i_t1 : Rg (0) (11) (t1)) (i_t2 : Rg (0) (63) (t2)) (i_t3 : Rg (0) (63) (t3)) (st2 : ( SqB (c.2.1 50) t2)) (st3 : ( SqB (c.2.1 50) t3)) : Sat (sX5_moveAlong_129 h x5 x6 x8 t0 t1 t2 t3) (ZQ (ZI0 h0 (0) (536870911)) (fun o => GMq (c.2.1 50) o.1)) := by
  unfold sX5_moveAlong_129 sX5_plainMove
  refine s_pu (fun o_1z e_1 => ?_)
  try dsimp only
  have i_o_1z : Rg (0) (33554431) (o_1z) := by rw [e_1]; exact (rg_or (n := 25) (rg_m (rg_or (n := 24) (rg_m (rg_or (n := 20) (rg_m (rg_or (n := 16) (rg_m (rg_or (n := 12) (rg_m i_t2 (by decide) : Rg (0) (63) (t2)) (rg_m (rg_shl (n := 6) (rg_m i_t3 (by decide) : Rg (0) (63) (t3)) (rg_m (rg_b rfl : Rg (6) (6) ((6 : Int32))) (by decide) : Rg (0) (6) ((6 : Int32))) (by decide) : Rg (0) (4032) ((t3 <<< ((6 : Int32) &&& 31)))) (by decide) : Rg (0) (4032) ((t3 <<< ((6 : Int32) &&& 31)))) (by decide) : Rg (0) (4095) ((t2 ||| (t3 <<< ((6 : Int32) &&& 31))))) (by decide) : Rg (0) (4095) ((t2 ||| (t3 <<< ((6 : Int32) &&& 31))))) (rg_m (rg_shl (n := 12) (rg_m i_t1 (by decide) : Rg (0) (11) (t1)) (rg_m (rg_b rfl : Rg (12) (12) ((12 : Int32))) (by decide) : Rg (0) (12) ((12 : Int32))) (by decide) : Rg (0) (45056) ((t1 <<< ((12 : Int32) &&& 31)))) (by decide) : Rg (0) (45056) ((t1 <<< ((12 : Int32) &&& 31)))) (by decide) : Rg (0) (65535) (((t2 ||| (t3 <<< ((6 : Int32) &&& 31))) ||| (t1 <<< ((12 : Int32) &&& 31))))) (by decide) : Rg (0) (65535) (((t2 ||| (t3 <<< ((6 : Int32) &&& 31))) ||| (t1 <<< ((12 : Int32) &&& 31))))) (rg_m (rg_b rfl : Rg (983040) (983040) ((983040 : Int32))) (by decide) : Rg (0) (983040) ((983040 : Int32))) (by decide) : Rg (0) (1048575) ((((t2 ||| (t3 <<< ((6 : Int32) &&& 31))) ||| (t1 <<< ((12 : Int32) &&& 31))) ||| (983040 : Int32)))) (by decide) : Rg (0) (1048575) ((((t2 ||| (t3 <<< ((6 : Int32) &&& 31))) ||| (t1 <<< ((12 : Int32) &&& 31))) ||| (983040 : Int32)))) (rg_m (rg_b rfl : Rg (15728640) (15728640) ((15728640 : Int32))) (by decide) : Rg (0) (15728640) ((15728640 : Int32))) (by decide) : Rg (0) (16777215) (((((t2 ||| (t3 <<< ((6 : Int32) &&& 31))) ||| (t1 <<< ((12 : Int32) &&& 31))) ||| (983040 : Int32)) ||| (15728640 : Int32)))) (by decide) : Rg (0) (16777215) (((((t2 ||| (t3 <<< ((6 : Int32) &&& 31))) ||| (t1 <<< ((12 : Int32) &&& 31))) ||| (983040 : Int32)) ||| (15728640 : Int32)))) (rg_m (rg_shl (n := 24) (rg_m i_t0 (by decide) : Rg (0) (1) (t0)) (rg_m (rg_b rfl : Rg (24) (24) ((24 : Int32))) (by decide) : Rg (0) (24) ((24 : Int32))) (by decide) : Rg (0) (16777216) ((t0 <<< ((24 : Int32) &&& 31)))) (by decide) : Rg (0) (16777216) ((t0 <<< ((24 : Int32) &&& 31)))) (by decide) : Rg (0) (33554431) (((((t2 ||| (t3 <<< ((6 : Int32) &&& 31))) ||| (t1 <<< ((12 : Int32) &&& 31))) ||| (983040 : Int32)) ||| (15728640 : Int32)) ||| (t0 <<< ((24 : Int32) &&& 31))))
  refine s_br (fun c_2 => ?_) (fun c_2 => ?_)
  · have _ := c_2
    have i_f_3 : Rg (-2) (-1) (x8) := rg_lt1 c_2 i_x8 (rg_b rfl : Rg (0) (0) (0 : Int32))
    exact zX5_moveAlong_154 hF E T i_x5 i_x6 i_o_1z (by rw [e_1]; exact (gq_plain (i_t3 : Rg (0) (63) (t3)) (i_t2 : Rg (0) (63) (t2)) (i_t1 : Rg (0) (11) (t1)) ((rg_m i_t0 (by decide)) : Rg (0) (3) (t0)) st3 st2))
  · have _ := c_2
    have i_f_4 : Rg (0) (23) (x8) := rg_le2 (nlt_le c_2) (rg_b rfl : Rg (0) (0) (0 : Int32)) i_x8
    refine s_q (fun v_3 e_5 => ?_)
    have i_v_3 : Rg (0) (33554431) (v_3) := by rw [e_5]; exact (rg_or (n := 25) (rg_m (rg_and' i_o_1z (by decide) : Rg (0) (33554431) ((o_1z &&& (- 15728641 : Int32)))) (by decide) : Rg (0) (33554431) ((o_1z &&& (- 15728641 : Int32)))) (rg_m (rg_shl (n := 20) (rg_m (rg_shrk 1 (by decide) i_f_4 (by decide) : Rg (0) (11) ((x8 >>> ((1 : Int32) &&& 31)))) (by decide) : Rg (0) (11) ((x8 >>> ((1 : Int32) &&& 31)))) (rg_m (rg_b rfl : Rg (20) (20) ((20 : Int32))) (by decide) : Rg (0) (20) ((20 : Int32))) (by decide) : Rg (0) (11534336) (((x8 >>> ((1 : Int32) &&& 31)) <<< ((20 : Int32) &&& 31)))) (by decide) : Rg (0) (11534336) (((x8 >>> ((1 : Int32) &&& 31)) <<< ((20 : Int32) &&& 31)))) (by decide) : Rg (0) (33554431) ((o_1z &&& (- 15728641 : Int32)) ||| ((x8 >>> ((1 : Int32) &&& 31)) <<< ((20 : Int32) &&& 31))))
    exact zX5_moveAlong_154 hF E T i_x5 i_x6 i_v_3 (by rw [e_5]; exact (gq_taken (by rw [e_1]; exact (gq_plain (i_t3 : Rg (0) (63) (t3)) (i_t2 : Rg (0) (63) (t2)) (i_t1 : Rg (0) (11) (t1)) ((rg_m i_t0 (by decide)) : Rg (0) (3) (t0)) st3 st2)) ((rg_shrk 1 (by decide) i_f_4 (by decide) : Rg (0) (11) ((x8 >>> ((1 : Int32) &&& 31)))) : Rg (0) (11) ((x8 >>> ((1 : Int32) &&& 31))))))
set_option maxRecDepth 20000 in
theorem zX5_moveAlong_111 {ρ : Nat → Nat} {c : Cm} {h0 : Hp} {F : Nat} (hF : 700000 ≤ F) {h : Hp} {x2 : Int32} {x3 : Int32} {x4 : Int32} {x5 : Int32} {x6 : Int32} {x7 : Int32} {t0 : Int32} (E : h = h0) (T : TH ρ c h) (i_x2 : Rg (0) (63) (x2)) (i_x3 : Rg (0) (23) (x3)) (i_x4 : Rg (0) (63) (x4)) (i_x5 : Rg (0) (63) (x5)) (i_x6 : Rg (0) (7) (x6)) (i_x7 : Rg (0) (1) (x7)) (i_t0 : Rg (-2) (23) (t0)) (s2 : ( SqB (c.2.1 50) x2)) (s4 : ( SqB (c.2.1 50) x4)) : Sat (sX5_moveAlong_111 h x2 x3 x4 x5 x6 x7 t0) (ZQ (ZI0 h0 (0) (536870911)) (fun o => GMq (c.2.1 50) o.1)) := by
  unfold sX5_moveAlong_111 
  refine s_br (fun c_1 => ?_) (fun c_1 => ?_)
  · have _ := c_1
    have i_f_2 : Rg (0) (0) (x7) := rg_eq c_1 (rg_b rfl : Rg (0) (0) (0 : Int32))
    exact zX5_moveAlong_129 hF E T i_x5 i_x6 i_t0 (rg_m (rg_b rfl : Rg (0) (0) ((0 : Int32))) (by decide)) (rg_shrk 1 (by decide) i_x3 (by decide) : Rg (0) (11) ((x3 >>> ((1 : Int32) &&& 31)))) i_x4 i_x2 s4 s2
  · have _ := c_1
    have i_f_3 : Rg (1) (1) (x7) := rg_nlo c_1 i_x7 (rg_b rfl : Rg (0) (0) (0 : Int32))
    exact zX5_moveAlong_129 hF E T i_x5 i_x6 i_t0 (rg_m (rg_b rfl : Rg (1) (1) ((1 : Int32))) (by decide)) (rg_shrk 1 (by decide) i_x3 (by decide) : Rg (0) (11) ((x3 >>> ((1 : Int32) &&& 31)))) i_x4 i_x2 s4 s2
set_option maxRecDepth 20000 in
theorem zX5_moveAlong_75 {ρ : Nat → Nat} {c : Cm} {h0 : Hp} {F : Nat} (hF : 700000 ≤ F) (m3 : c.2.1 3 = true) {h : Hp} {x0 : Nat} {x2 : Int32} {x3 : Int32} {x4 : Int32} {x5 : Int32} {x6 : Int32} {t0 : Int32} (E : h = h0) (T : TH ρ c h) (r_x0 : ρ x0 = 6) (i_x2 : Rg (0) (63) (x2)) (i_x3 : Rg (0) (23) (x3)) (i_x4 : Rg (0) (63) (x4)) (i_x5 : Rg (0) (63) (x5)) (i_x6 : Rg (0) (7) (x6)) (i_t0 : Rg (0) (1) (t0)) (s2 : ( SqB (c.2.1 50) x2)) (s4 : ( SqB (c.2.1 50) x4)) : Sat (sX5_moveAlong_75 h x0 x2 x3 x4 x5 x6 t0) (ZQ (ZI0 h0 (0) (536870911)) (fun o => GMq (c.2.1 50) o.1)) := by
  unfold sX5_moveAlong_75 
  refine s_br (fun c_1 => ?_) (fun c_1 => ?_)
  · have _ := c_1
    have i_f_2 : Rg (0) (0) (t0) := rg_eq c_1 (rg_b rfl : Rg (0) (0) (0 : Int32))
    obtain ⟨r_2, e_r_2, q_r_2⟩ := thM T r_x0 (k := 6) (i := 4) (j := 3) (k2 := 4) rfl (by decide) rfl (by decide) m3
    refine s_ref e_r_2 ?_
    obtain ⟨r_3, e_r_3, q_r_3⟩ := thR T q_r_2 (k := 4) (i := 0) (k2 := 34) rfl (by decide)
    refine s_ref e_r_3 ?_
    refine s_gd (by rw [thN T q_r_3 (k := 34) (n := 64) rfl (by decide)]; exact rg_inB (i_x4 : Rg (0) (63) (x4)) (by decide)) ?_
    exact zX5_moveAlong_111 hF E T i_x2 i_x3 i_x4 i_x5 i_x6 (rg_m i_f_2 (by decide)) (thI T q_r_3 (k := 34) rfl : Rg (-2) (23) ((hI h r_3 x4.toNatClampNeg))) s2 s4
  · have _ := c_1
    have i_f_3 : Rg (1) (1) (t0) := rg_nlo c_1 i_t0 (rg_b rfl : Rg (0) (0) (0 : Int32))
    obtain ⟨r_5, e_r_5, q_r_5⟩ := thM T r_x0 (k := 6) (i := 4) (j := 3) (k2 := 4) rfl (by decide) rfl (by decide) m3
    refine s_ref e_r_5 ?_
    obtain ⟨r_6, e_r_6, q_r_6⟩ := thR T q_r_5 (k := 4) (i := 0) (k2 := 34) rfl (by decide)
    refine s_ref e_r_6 ?_
    refine s_ref e_r_5 ?_
    refine s_dI0 (zX3_passSquare hF T q_r_5 (rg_m (rg_b rfl : Rg (0) (0) ((0 : Int32))) (by decide))) (fun o_8 eb_o_8 e_o_8 i_o_8 => ?_)
    have T_4 := th_eq e_o_8 T
    refine s_gd (by rw [thN T_4 q_r_6 (k := 34) (n := 64) rfl (by decide)]; exact rg_inB (i_o_8 : Rg (0) (63) (o_8.1)) (by decide)) ?_
    exact zX5_moveAlong_111 hF (e_o_8.trans E) T_4 i_x2 i_x3 i_x4 i_x5 i_x6 (rg_m i_f_3 (by decide)) (thI T_4 q_r_6 (k := 34) rfl : Rg (-2) (23) ((hI o_8.2 r_6 o_8.1.toNatClampNeg))) s2 s4
set_option maxRecDepth 20000 in
theorem zX5_moveAlong {ρ : Nat → Nat} {c : Cm} {F : Nat} (hF : 700000 ≤ F) (m3 : c.2.1 3 = true) {h : Hp} {x0 : Nat} {x1 : Int32} {x2 : Int32} {x3 : Int32} (T : TH ρ c h) (r_x0 : ρ x0 = 6) (i_x1 : Rg (0) (172031) (x1)) (i_x2 : Rg (0) (63) (x2)) (i_x3 : Rg (0) (23) (x3)) (s2 :  SqB (c.2.1 50) x2) : Sat (sX5_moveAlong h x0 x1 x2 x3) (ZQ (ZI0 h (0) (536870911)) (fun o => GMq (c.2.1 50) o.1)) := by
  unfold sX5_moveAlong sX5_moveAlong_74
  obtain ⟨r_1, e_r_1, q_r_1⟩ := thR T r_x0 (k := 6) (i := 1) (k2 := 11) rfl (by decide)
  refine s_ref e_r_1 ?_
  obtain ⟨r_2, e_r_2, q_r_2⟩ := thR T q_r_1 (k := 11) (i := 1) (k2 := 51) rfl (by decide)
  refine s_ref e_r_2 ?_
  refine s_gd (by rw [thN T q_r_2 (k := 51) (n := 172032) rfl (by decide)]; exact rg_inB (i_x1 : Rg (0) (172031) (x1)) (by decide)) ?_
  refine s_q (fun v_4 e_1 => ?_)
  have i_v_4 : Rg (0) (63) (v_4) := by rw [e_1]; exact (rg_and (rg_b rfl : Rg (63) (63) ((63 : Int32))) (by decide) : Rg (0) (63) ((hI h r_2 x1.toNatClampNeg) &&& (63 : Int32)))
  refine s_ref e_r_1 ?_
  refine s_ref e_r_2 ?_
  refine s_gd (by rw [thN T q_r_2 (k := 51) (n := 172032) rfl (by decide)]; exact rg_inB (i_x1 : Rg (0) (172031) (x1)) (by decide)) ?_
  refine s_q (fun v_8 e_2 => ?_)
  have i_v_8 : Rg (0) (63) (v_8) := by rw [e_2]; exact (rg_and (rg_b rfl : Rg (63) (63) ((63 : Int32))) (by decide) : Rg (0) (63) (((hI h r_2 x1.toNatClampNeg) >>> ((6 : Int32) &&& 31)) &&& (63 : Int32)))
  refine s_ref e_r_1 ?_
  refine s_ref e_r_2 ?_
  refine s_gd (by rw [thN T q_r_2 (k := 51) (n := 172032) rfl (by decide)]; exact rg_inB (i_x1 : Rg (0) (172031) (x1)) (by decide)) ?_
  refine s_q (fun v_12 e_3 => ?_)
  have i_v_12 : Rg (0) (7) (v_12) := by rw [e_3]; exact (rg_shrk 12 (by decide) (thI T q_r_2 (k := 51) rfl : Rg (0) (32767) ((hI h r_2 x1.toNatClampNeg))) (by decide) : Rg (0) (7) ((hI h r_2 x1.toNatClampNeg) >>> ((12 : Int32) &&& 31)))
  refine s_br (fun c_4 => ?_) (fun c_4 => ?_)
  · have _ := c_4
    have i_f_5 : Rg (0) (0) ((v_8 &&& (32 : Int32))) := rg_eq c_4 (rg_b rfl : Rg (0) (0) (0 : Int32))
    exact zX5_moveAlong_75 hF m3 rfl T r_x0 i_x2 i_x3 i_v_4 i_v_8 i_v_12 (rg_m (rg_b rfl : Rg (0) (0) ((0 : Int32))) (by decide)) s2 (by rw [e_1]; exact (thW T q_r_2))
  · have _ := c_4
    have i_f_6 : Rg (1) (32) ((v_8 &&& (32 : Int32))) := rg_nlo c_4 (rg_and (rg_b rfl : Rg (32) (32) ((32 : Int32))) (by decide) : Rg (0) (32) ((v_8 &&& (32 : Int32)))) (rg_b rfl : Rg (0) (0) (0 : Int32))
    obtain ⟨r_14, e_r_14, q_r_14⟩ := thM T r_x0 (k := 6) (i := 4) (j := 3) (k2 := 4) rfl (by decide) rfl (by decide) m3
    refine s_ref e_r_14 ?_
    refine s_br (fun c_7 => ?_) (fun c_7 => ?_)
    · have _ := c_7
      exact zX5_moveAlong_75 hF m3 rfl T r_x0 i_x2 i_x3 i_v_4 i_v_8 i_v_12 (rg_m (rg_b rfl : Rg (0) (0) ((0 : Int32))) (by decide)) s2 (by rw [e_1]; exact (thW T q_r_2))
    · have _ := c_7
      exact zX5_moveAlong_75 hF m3 rfl T r_x0 i_x2 i_x3 i_v_4 i_v_8 i_v_12 (rg_m (rg_b rfl : Rg (1) (1) ((1 : Int32))) (by decide)) s2 (by rw [e_1]; exact (thW T q_r_2))
set_option maxRecDepth 20000 in
theorem zX5_addSteps_120 {ρ : Nat → Nat} {c : Cm} {F : Nat} (hF : 700000 ≤ F) (m4 : c.2.1 4 = true) {k_45 : Hp → Nat → Int32 → Int32 → Int32 → Int32 → Int32 → Option (Hp)} {C_45 : Int} (hk_45 : ∀ {h : Hp} {x0 : Nat} {x1 : Int32} {x2 : Int32} {x3 : Int32} {x4 : Int32} {x5 : Int32}, TH ρ c h → ρ x0 = 6 → Rg (0) (63) (x1) → Rg (0) (23) (x2) → Rg (-1) (63) (x3) → Rg (0) (172032) (x4) → Rg (0) (172032) (x5) → ( SqB (c.2.1 50) x1) → C_45 < x5.toInt → Sat (k_45 h x0 x1 x2 x3 x4 x5) (ZV ρ c)) (hA : pmA c [(47, 999), (6, 6)]) : ∀ (f : Nat) {h : Hp} {x0 : Nat} {x1 : Int32} {x2 : Int32} {x3 : Int32} {x4 : Int32} {x5 : Int32} {x7 : Int32} {x8 : Int32} {x9 : Int32}, TH ρ c h → ρ x0 = 6 → Rg (0) (63) (x1) → Rg (0) (23) (x2) → Rg (0) (63) (x3) → Rg (1) (172032) (x4) → Rg (0) (172031) (x5) → Rg (0) (536870911) (x7) → Rg (0) (6) (x8) → Rg (0) (6) (x9) → C_45 ≤ x5.toInt → (GMq (c.2.1 50) x7) → ( SqB (c.2.1 50) x1) → (6 - x9.toInt).toNat < f → Sat (sX5_addSteps_120 F k_45 f h x0 x1 x2 x3 x4 x5 x7 x8 x9) (ZV ρ c) := by
  intro f
  induction f with
  | zero => intros; omega
  | succ f ih =>
    intro h x0 x1 x2 x3 x4 x5 x7 x8 x9 T r_x0 i_x1 i_x2 i_x3 i_x4 i_x5 i_x7 i_x8 i_x9 hc_45 g7 s1 hm
    rw [sX5_addSteps_120]
    unfold sX5_addSteps_170 sX5_becoming
    obtain ⟨C_120, hC_120⟩ : ∃ C : Int, C = x9.toInt := ⟨_, rfl⟩
    have hk_120 : ∀ {h : Hp} {x0 : Nat} {x1 : Int32} {x2 : Int32} {x3 : Int32} {x4 : Int32} {x5 : Int32} {x7 : Int32} {x8 : Int32} {x9 : Int32}, TH ρ c h → ρ x0 = 6 → Rg (0) (63) (x1) → Rg (0) (23) (x2) → Rg (0) (63) (x3) → Rg (1) (172032) (x4) → Rg (0) (172031) (x5) → Rg (0) (536870911) (x7) → Rg (0) (6) (x8) → Rg (0) (6) (x9) → C_45 ≤ x5.toInt → (GMq (c.2.1 50) x7) → ( SqB (c.2.1 50) x1) → C_120 < x9.toInt → Sat (sX5_addSteps_120 F k_45 f h x0 x1 x2 x3 x4 x5 x7 x8 x9) (ZV ρ c) := by
      intro h' x0' x1' x2' x3' x4' x5' x7' x8' x9' T' r_x0' i_x1' i_x2' i_x3' i_x4' i_x5' i_x7' i_x8' i_x9' hc_45' g7' s1' hl
      exact ih T' r_x0' i_x1' i_x2' i_x3' i_x4' i_x5' i_x7' i_x8' i_x9' hc_45' g7' s1' (by have := i_x9'.1; have := i_x9'.2; omega)
    have hc_120 : C_120 ≤ x9.toInt := by omega
    refine s_br (fun c_1 => ?_) (fun c_1 => ?_)
    · have _ := c_1
      refine s_br (fun c_2 => ?_) (fun c_2 => ?_)
      · have _ := c_2
        have i_f_3 : Rg (0) (0) (x8) := rg_eq c_2 (rg_b rfl : Rg (0) (0) (0 : Int32))
        refine s_cV (zX5_addMove hF m4 (pmA_s hA rfl) T r_x0 (rg_m i_x7 (by decide)) g7) (fun o_3 T_4 => ?_)
        refine s_q (fun v_1q1 e_5 => ?_)
        have i_v_1q1 : Rg (1) (172032) (v_1q1) := by rw [e_5]; exact (rg_add i_x5 (rg_b rfl : Rg (1) (1) ((1 : Int32))) (by decide) : Rg (1) (172032) (x5 + (1 : Int32)))
        have m_6 : (v_1q1).toInt = x5.toInt + 1 := by rw [e_5]; exact rg_inc i_x5 (by decide)
        exact hk_45 T_4 r_x0 i_x1 i_x2 (rg_m i_x3 (by decide)) (rg_m i_x4 (by decide)) (rg_m i_v_1q1 (by decide)) s1 (by have := hc_45; omega)
      · have _ := c_2
        have i_f_7 : Rg (1) (6) (x8) := rg_nlo c_2 i_x8 (rg_b rfl : Rg (0) (0) (0 : Int32))
        refine s_q (fun v_1q2 e_8 => ?_)
        have i_v_1q2 : Rg (1) (172032) (v_1q2) := by rw [e_8]; exact (rg_add i_x5 (rg_b rfl : Rg (1) (1) ((1 : Int32))) (by decide) : Rg (1) (172032) (x5 + (1 : Int32)))
        have m_9 : (v_1q2).toInt = x5.toInt + 1 := by rw [e_8]; exact rg_inc i_x5 (by decide)
        exact hk_45 T r_x0 i_x1 i_x2 (rg_m i_x3 (by decide)) (rg_m i_x4 (by decide)) (rg_m i_v_1q2 (by decide)) s1 (by have := hc_45; omega)
    · have _ := c_1
      have i_f_10 : Rg (0) (5) (x9) := rg_lt1 (nle_lt c_1) i_x9 i_x8
      have i_f_11 : Rg (1) (6) (x8) := rg_lt2 (nle_lt c_1) i_x9 i_x8
      obtain ⟨r_4, e_r_4, q_r_4⟩ := thR T r_x0 (k := 6) (i := 0) (k2 := 2) rfl (by decide)
      refine s_ref e_r_4 ?_
      obtain ⟨r_5, e_r_5, q_r_5⟩ := thR T q_r_4 (k := 2) (i := 17) (k2 := 30) rfl (by decide)
      refine s_ref e_r_5 ?_
      refine s_gd (by rw [thN T q_r_5 (k := 30) (n := 72) rfl (by decide)]; exact rg_inB ((rg_add (rg_mulc (rg_shrk 1 (by decide) i_x2 (by decide) : Rg (0) (11) ((x2 >>> ((1 : Int32) &&& 31)))) (rg_b rfl : Rg (6) (6) ((6 : Int32))) (by decide) : Rg (0) (66) (((x2 >>> ((1 : Int32) &&& 31)) * (6 : Int32)))) i_f_10 (by decide) : Rg (0) (71) ((((x2 >>> ((1 : Int32) &&& 31)) * (6 : Int32)) + x9))) : Rg (0) (71) ((((x2 >>> ((1 : Int32) &&& 31)) * (6 : Int32)) + x9))) (by decide)) ?_
      refine s_pu (fun o_7z e_12 => ?_)
      try dsimp only
      have i_o_7z : Rg (0) (536870911) (o_7z) := by rw [e_12]; exact (rg_or (n := 29) (rg_m (rg_and' i_x7 (by decide) : Rg (0) (536870911) ((x7 &&& (- 983041 : Int32)))) (by decide) : Rg (0) (536870911) ((x7 &&& (- 983041 : Int32)))) (rg_m (rg_shl (n := 16) (rg_m (thI T q_r_5 (k := 30) rfl : Rg (0) (11) ((hI h r_5 (((x2 >>> ((1 : Int32) &&& 31)) * (6 : Int32)) + x9).toNatClampNeg))) (by decide) : Rg (0) (11) ((hI h r_5 (((x2 >>> ((1 : Int32) &&& 31)) * (6 : Int32)) + x9).toNatClampNeg))) (rg_m (rg_b rfl : Rg (16) (16) ((16 : Int32))) (by decide) : Rg (0) (16) ((16 : Int32))) (by decide) : Rg (0) (720896) (((hI h r_5 (((x2 >>> ((1 : Int32) &&& 31)) * (6 : Int32)) + x9).toNatClampNeg) <<< ((16 : Int32) &&& 31)))) (by decide) : Rg (0) (720896) (((hI h r_5 (((x2 >>> ((1 : Int32) &&& 31)) * (6 : Int32)) + x9).toNatClampNeg) <<< ((16 : Int32) &&& 31)))) (by decide) : Rg (0) (536870911) ((x7 &&& (- 983041 : Int32)) ||| ((hI h r_5 (((x2 >>> ((1 : Int32) &&& 31)) * (6 : Int32)) + x9).toNatClampNeg) <<< ((16 : Int32) &&& 31))))
      refine s_cV (zX5_addMove hF m4 (pmA_s hA rfl) T r_x0 (rg_m i_o_7z (by decide)) (by rw [e_12]; exact (gq_become g7 ((thI T q_r_5 (k := 30) rfl : Rg (0) (11) ((hI h r_5 (((x2 >>> ((1 : Int32) &&& 31)) * (6 : Int32)) + x9).toNatClampNeg))) : Rg (0) (11) ((hI h r_5 (((x2 >>> ((1 : Int32) &&& 31)) * (6 : Int32)) + x9).toNatClampNeg)))))) (fun o_8 T_13 => ?_)
      refine s_q (fun v_9 e_14 => ?_)
      have i_v_9 : Rg (1) (6) (v_9) := by rw [e_14]; exact (rg_add i_f_10 (rg_b rfl : Rg (1) (1) ((1 : Int32))) (by decide) : Rg (1) (6) (x9 + (1 : Int32)))
      have m_15 : (v_9).toInt = x9.toInt + 1 := by rw [e_14]; exact rg_inc i_f_10 (by decide)
      exact hk_120 T_13 r_x0 i_x1 i_x2 i_x3 i_x4 i_x5 i_x7 (rg_m i_f_11 (by decide)) (rg_m i_v_9 (by decide)) hc_45 g7 s1 (by have := hc_120; omega)
set_option maxRecDepth 20000 in
theorem zX5_addSteps_45 {ρ : Nat → Nat} {c : Cm} {F : Nat} (hF : 700000 ≤ F) (m3 : c.2.1 3 = true) (m4 : c.2.1 4 = true) (hA : pmA c [(47, 999), (6, 6)]) : ∀ (f : Nat) {h : Hp} {x0 : Nat} {x1 : Int32} {x2 : Int32} {x3 : Int32} {x4 : Int32} {x5 : Int32}, TH ρ c h → ρ x0 = 6 → Rg (0) (63) (x1) → Rg (0) (23) (x2) → Rg (-1) (63) (x3) → Rg (0) (172032) (x4) → Rg (0) (172032) (x5) → ( SqB (c.2.1 50) x1) → (172032 - x5.toInt).toNat < f → Sat (sX5_addSteps_45 F f h x0 x1 x2 x3 x4 x5) (ZV ρ c) := by
  intro f
  induction f with
  | zero => intros; omega
  | succ f ih =>
    intro h x0 x1 x2 x3 x4 x5 T r_x0 i_x1 i_x2 i_x3 i_x4 i_x5 s1 hm
    rw [sX5_addSteps_45]
    unfold sX5_addSteps_170
    obtain ⟨C_45, hC_45⟩ : ∃ C : Int, C = x5.toInt := ⟨_, rfl⟩
    have hk_45 : ∀ {h : Hp} {x0 : Nat} {x1 : Int32} {x2 : Int32} {x3 : Int32} {x4 : Int32} {x5 : Int32}, TH ρ c h → ρ x0 = 6 → Rg (0) (63) (x1) → Rg (0) (23) (x2) → Rg (-1) (63) (x3) → Rg (0) (172032) (x4) → Rg (0) (172032) (x5) → ( SqB (c.2.1 50) x1) → C_45 < x5.toInt → Sat (sX5_addSteps_45 F f h x0 x1 x2 x3 x4 x5) (ZV ρ c) := by
      intro h' x0' x1' x2' x3' x4' x5' T' r_x0' i_x1' i_x2' i_x3' i_x4' i_x5' s1' hl
      exact ih T' r_x0' i_x1' i_x2' i_x3' i_x4' i_x5' s1' (by have := i_x5'.1; have := i_x5'.2; omega)
    have hc_45 : C_45 ≤ x5.toInt := by omega
    refine s_br (fun c_1 => ?_) (fun c_1 => ?_)
    · have _ := c_1
      exact s_some (T)
    · have _ := c_1
      have i_f_2 : Rg (0) (172031) (x5) := rg_lt1 (nle_lt c_1) i_x5 i_x4
      have i_f_3 : Rg (1) (172032) (x4) := rg_lt2 (nle_lt c_1) i_x5 i_x4
      obtain ⟨r_2, e_r_2, q_r_2⟩ := thR T r_x0 (k := 6) (i := 1) (k2 := 11) rfl (by decide)
      refine s_ref e_r_2 ?_
      obtain ⟨r_3, e_r_3, q_r_3⟩ := thR T q_r_2 (k := 11) (i := 1) (k2 := 51) rfl (by decide)
      refine s_ref e_r_3 ?_
      refine s_gd (by rw [thN T q_r_3 (k := 51) (n := 172032) rfl (by decide)]; exact rg_inB (i_f_2 : Rg (0) (172031) (x5)) (by decide)) ?_
      refine s_q (fun v_5 e_4 => ?_)
      have i_v_5 : Rg (0) (63) (v_5) := by rw [e_4]; exact (rg_and (rg_b rfl : Rg (63) (63) ((63 : Int32))) (by decide) : Rg (0) (63) ((hI h r_3 x5.toNatClampNeg) &&& (63 : Int32)))
      refine s_br (fun c_5 => ?_) (fun c_5 => ?_)
      · have _ := c_5
        have i_f_6 : Rg (0) (63) (x3) := rg_eq c_5.symm i_v_5
        refine s_q (fun v_1q1 e_7 => ?_)
        have i_v_1q1 : Rg (1) (172032) (v_1q1) := by rw [e_7]; exact (rg_add i_f_2 (rg_b rfl : Rg (1) (1) ((1 : Int32))) (by decide) : Rg (1) (172032) (x5 + (1 : Int32)))
        have m_8 : (v_1q1).toInt = x5.toInt + 1 := by rw [e_7]; exact rg_inc i_f_2 (by decide)
        exact hk_45 T r_x0 i_x1 i_x2 (rg_m i_f_6 (by decide)) (rg_m i_f_3 (by decide)) (rg_m i_v_1q1 (by decide)) s1 (by have := hc_45; omega)
      · have _ := c_5
        obtain ⟨r_7, e_r_7, q_r_7⟩ := thM T r_x0 (k := 6) (i := 4) (j := 3) (k2 := 4) rfl (by decide) rfl (by decide) m3
        refine s_ref e_r_7 ?_
        refine s_ref e_r_7 ?_
        refine s_dI0 (zX5_leads hF T r_x0 q_r_7 i_f_2 (thI T q_r_7 (k := 4) (i := 5) rfl : Rg (0) (1) ((hI h r_7 5)))) (fun o_9 eb_o_9 e_o_9 i_o_9 => ?_)
        have T_9 := th_eq e_o_9 T
        refine s_br (fun c_10 => ?_) (fun c_10 => ?_)
        · have _ := c_10
          have i_f_11 : Rg (0) (0) (o_9.1) := rg_eq c_10 (rg_b rfl : Rg (0) (0) (0 : Int32))
          refine s_q (fun v_1q2 e_12 => ?_)
          have i_v_1q2 : Rg (1) (172032) (v_1q2) := by rw [e_12]; exact (rg_add i_f_2 (rg_b rfl : Rg (1) (1) ((1 : Int32))) (by decide) : Rg (1) (172032) (x5 + (1 : Int32)))
          have m_13 : (v_1q2).toInt = x5.toInt + 1 := by rw [e_12]; exact rg_inc i_f_2 (by decide)
          exact hk_45 T_9 r_x0 i_x1 i_x2 i_x3 (rg_m i_f_3 (by decide)) (rg_m i_v_1q2 (by decide)) s1 (by have := hc_45; omega)
        · have _ := c_10
          have i_f_14 : Rg (1) (1) (o_9.1) := rg_nlo c_10 i_o_9 (rg_b rfl : Rg (0) (0) (0 : Int32))
          refine s_dI0q (zX5_moveAlong hF m3 T_9 r_x0 i_f_2 i_x1 i_x2 s1) (fun o_11 eb_o_11 e_o_11 i_o_11 pp_o_11 => ?_)
          have T_15 := th_eq e_o_11 T_9
          refine s_dI0 (zX5_choices hF m3 T_15 r_x0 i_o_11 pp_o_11) (fun o_12 eb_o_12 e_o_12 i_o_12 => ?_)
          have T_16 := th_eq e_o_12 T_15
          have m_17 : Rg (0) (6) ((0 : Int32)) := (rg_m (rg_b rfl : Rg (0) (0) ((0 : Int32))) (by decide))
          exact zX5_addSteps_120 hF m4 @hk_45 (pmA_s hA rfl) F T_16 r_x0 i_x1 i_x2 i_v_5 i_f_3 i_f_2 i_o_11 i_o_12 (rg_m (rg_b rfl : Rg (0) (0) ((0 : Int32))) (by decide)) hc_45 pp_o_11 s1 (by have := m_17.1; have := m_17.2; omega)
set_option maxRecDepth 20000 in
theorem zX5_addSteps {ρ : Nat → Nat} {c : Cm} {F : Nat} (hF : 700000 ≤ F) (m3 : c.2.1 3 = true) (m4 : c.2.1 4 = true) (hA : pmA c [(47, 999), (6, 6)]) {h : Hp} {x0 : Nat} {x1 : Int32} (T : TH ρ c h) (r_x0 : ρ x0 = 6) (i_x1 : Rg (0) (63) (x1)) (ma : (MenAt x0 x1 h)) (s1 :  SqB (c.2.1 50) x1) : Sat (sX5_addSteps F h x0 x1) (ZV ρ c) := by
  unfold sX5_addSteps sX10_cell
  obtain ⟨r_1, e_r_1, q_r_1⟩ := thM T r_x0 (k := 6) (i := 4) (j := 3) (k2 := 4) rfl (by decide) rfl (by decide) m3
  refine s_ref e_r_1 ?_
  obtain ⟨r_2, e_r_2, q_r_2⟩ := thR T q_r_1 (k := 4) (i := 0) (k2 := 34) rfl (by decide)
  refine s_ref e_r_2 ?_
  have pu_1 : 0 ≤ (hI h r_2 x1.toNatClampNeg).toInt := ma_use ma e_r_1 e_r_2
  refine s_gd (by rw [thN T q_r_2 (k := 34) (n := 64) rfl (by decide)]; exact rg_inB (i_x1 : Rg (0) (63) (x1)) (by decide)) ?_
  refine s_q (fun v_4 e_2 => ?_)
  have i_v_4 : Rg (-2) (23) (v_4) := by rw [e_2]; exact (thI T q_r_2 (k := 34) rfl : Rg (-2) (23) (hI h r_2 x1.toNatClampNeg))
  obtain ⟨r_5, e_r_5, q_r_5⟩ := thR T r_x0 (k := 6) (i := 1) (k2 := 11) rfl (by decide)
  refine s_ref e_r_5 ?_
  obtain ⟨r_6, e_r_6, q_r_6⟩ := thR T q_r_5 (k := 11) (i := 0) (k2 := 50) rfl (by decide)
  refine s_ref e_r_6 ?_
  refine s_pu (fun o_7z e_3 => ?_)
  try dsimp only
  have i_o_7z : Rg (-8128) (98304) (o_7z) := by rw [e_3]; exact (rg_add (rg_mulc (rg_add (rg_mulc i_v_4 (rg_b rfl : Rg (64) (64) ((64 : Int32))) (by decide) : Rg (-128) (1472) ((v_4 * (64 : Int32)))) i_x1 (by decide) : Rg (-128) (1535) (((v_4 * (64 : Int32)) + x1))) (rg_b rfl : Rg (64) (64) ((64 : Int32))) (by decide) : Rg (-8192) (98240) ((((v_4 * (64 : Int32)) + x1) * (64 : Int32)))) (rg_b rfl : Rg (64) (64) ((64 : Int32))) (by decide) : Rg (-8128) (98304) ((((v_4 * (64 : Int32)) + x1) * (64 : Int32)) + (64 : Int32)))
  have og_4 : Rg (0) (98304) (o_7z) := ⟨(by have := (i_o_7z : Rg (-8128) (98304) (o_7z)).1; have := (i_o_7z : Rg (-8128) (98304) (o_7z)).2; have : (o_7z).toInt = ((((v_4 * (64 : Int32)) + x1) * (64 : Int32)) + (64 : Int32) : Int32).toInt := congrArg Int32.toInt e_3; have : ((((v_4 * (64 : Int32)) + x1) * (64 : Int32)) + (64 : Int32) : Int32).toInt = ((((v_4 * (64 : Int32)) + x1) * (64 : Int32)) : Int32).toInt + ((64 : Int32) : Int32).toInt := ti_add ((rg_mulc (rg_add (rg_mulc i_v_4 (rg_b rfl : Rg (64) (64) ((64 : Int32))) (by decide) : Rg (-128) (1472) ((v_4 * (64 : Int32)))) i_x1 (by decide) : Rg (-128) (1535) (((v_4 * (64 : Int32)) + x1))) (rg_b rfl : Rg (64) (64) ((64 : Int32))) (by decide) : Rg (-8192) (98240) ((((v_4 * (64 : Int32)) + x1) * (64 : Int32)))) : Rg (-8192) (98240) ((((v_4 * (64 : Int32)) + x1) * (64 : Int32)))) ((rg_b rfl : Rg (64) (64) ((64 : Int32))) : Rg (64) (64) ((64 : Int32))) (by decide); have : ((((v_4 * (64 : Int32)) + x1) * (64 : Int32)) : Int32).toInt = 64 * (((v_4 * (64 : Int32)) + x1) : Int32).toInt := ti_mulc ((rg_add (rg_mulc i_v_4 (rg_b rfl : Rg (64) (64) ((64 : Int32))) (by decide) : Rg (-128) (1472) ((v_4 * (64 : Int32)))) i_x1 (by decide) : Rg (-128) (1535) (((v_4 * (64 : Int32)) + x1))) : Rg (-128) (1535) (((v_4 * (64 : Int32)) + x1))) (rg_b rfl : Rg 64 64 ((64 : Int32))) (by decide); have : (((v_4 * (64 : Int32)) + x1) : Int32).toInt = ((v_4 * (64 : Int32)) : Int32).toInt + (x1 : Int32).toInt := ti_add ((rg_mulc i_v_4 (rg_b rfl : Rg (64) (64) ((64 : Int32))) (by decide) : Rg (-128) (1472) ((v_4 * (64 : Int32)))) : Rg (-128) (1472) ((v_4 * (64 : Int32)))) (i_x1 : Rg (0) (63) (x1)) (by decide); have : ((v_4 * (64 : Int32)) : Int32).toInt = 64 * (v_4 : Int32).toInt := ti_mulc (i_v_4 : Rg (-2) (23) (v_4)) (rg_b rfl : Rg 64 64 ((64 : Int32))) (by decide); have := (i_v_4 : Rg (-2) (23) (v_4)).1; have := (i_v_4 : Rg (-2) (23) (v_4)).2; have : (v_4).toInt = (hI h r_2 x1.toNatClampNeg : Int32).toInt := congrArg Int32.toInt e_2; have hq_ := ((thI T q_r_2 (k := 34) rfl : Rg (-2) (23) (hI h r_2 x1.toNatClampNeg)) : Rg (-2) (23) (hI h r_2 x1.toNatClampNeg)); have := hq_.1; have := hq_.2; have := (i_x1 : Rg (0) (63) (x1)).1; have := (i_x1 : Rg (0) (63) (x1)).2; have : ((64 : Int32)).toInt = 64 := rfl; have hq_ := ((thI T q_r_2 (k := 34) rfl : Rg (-2) (23) ((hI h r_2 x1.toNatClampNeg))) : Rg (-2) (23) ((hI h r_2 x1.toNatClampNeg))); have := hq_.1; have := hq_.2; omega), (by have := (i_o_7z : Rg (-8128) (98304) (o_7z)).1; have := (i_o_7z : Rg (-8128) (98304) (o_7z)).2; have : (o_7z).toInt = ((((v_4 * (64 : Int32)) + x1) * (64 : Int32)) + (64 : Int32) : Int32).toInt := congrArg Int32.toInt e_3; have : ((((v_4 * (64 : Int32)) + x1) * (64 : Int32)) + (64 : Int32) : Int32).toInt = ((((v_4 * (64 : Int32)) + x1) * (64 : Int32)) : Int32).toInt + ((64 : Int32) : Int32).toInt := ti_add ((rg_mulc (rg_add (rg_mulc i_v_4 (rg_b rfl : Rg (64) (64) ((64 : Int32))) (by decide) : Rg (-128) (1472) ((v_4 * (64 : Int32)))) i_x1 (by decide) : Rg (-128) (1535) (((v_4 * (64 : Int32)) + x1))) (rg_b rfl : Rg (64) (64) ((64 : Int32))) (by decide) : Rg (-8192) (98240) ((((v_4 * (64 : Int32)) + x1) * (64 : Int32)))) : Rg (-8192) (98240) ((((v_4 * (64 : Int32)) + x1) * (64 : Int32)))) ((rg_b rfl : Rg (64) (64) ((64 : Int32))) : Rg (64) (64) ((64 : Int32))) (by decide); have : ((((v_4 * (64 : Int32)) + x1) * (64 : Int32)) : Int32).toInt = 64 * (((v_4 * (64 : Int32)) + x1) : Int32).toInt := ti_mulc ((rg_add (rg_mulc i_v_4 (rg_b rfl : Rg (64) (64) ((64 : Int32))) (by decide) : Rg (-128) (1472) ((v_4 * (64 : Int32)))) i_x1 (by decide) : Rg (-128) (1535) (((v_4 * (64 : Int32)) + x1))) : Rg (-128) (1535) (((v_4 * (64 : Int32)) + x1))) (rg_b rfl : Rg 64 64 ((64 : Int32))) (by decide); have : (((v_4 * (64 : Int32)) + x1) : Int32).toInt = ((v_4 * (64 : Int32)) : Int32).toInt + (x1 : Int32).toInt := ti_add ((rg_mulc i_v_4 (rg_b rfl : Rg (64) (64) ((64 : Int32))) (by decide) : Rg (-128) (1472) ((v_4 * (64 : Int32)))) : Rg (-128) (1472) ((v_4 * (64 : Int32)))) (i_x1 : Rg (0) (63) (x1)) (by decide); have : ((v_4 * (64 : Int32)) : Int32).toInt = 64 * (v_4 : Int32).toInt := ti_mulc (i_v_4 : Rg (-2) (23) (v_4)) (rg_b rfl : Rg 64 64 ((64 : Int32))) (by decide); have := (i_v_4 : Rg (-2) (23) (v_4)).1; have := (i_v_4 : Rg (-2) (23) (v_4)).2; have : (v_4).toInt = (hI h r_2 x1.toNatClampNeg : Int32).toInt := congrArg Int32.toInt e_2; have hq_ := ((thI T q_r_2 (k := 34) rfl : Rg (-2) (23) (hI h r_2 x1.toNatClampNeg)) : Rg (-2) (23) (hI h r_2 x1.toNatClampNeg)); have := hq_.1; have := hq_.2; have := (i_x1 : Rg (0) (63) (x1)).1; have := (i_x1 : Rg (0) (63) (x1)).2; have : ((64 : Int32)).toInt = 64 := rfl; have hq_ := ((thI T q_r_2 (k := 34) rfl : Rg (-2) (23) ((hI h r_2 x1.toNatClampNeg))) : Rg (-2) (23) ((hI h r_2 x1.toNatClampNeg))); have := hq_.1; have := hq_.2; omega)⟩
  refine s_gd (by rw [thN T q_r_6 (k := 50) (n := 98305) rfl (by decide)]; exact rg_inB (og_4 : Rg (0) (98304) (o_7z)) (by decide)) ?_
  refine s_q (fun v_9 e_5 => ?_)
  have i_v_9 : Rg (0) (172032) (v_9) := by rw [e_5]; exact (thI T q_r_6 (k := 50) rfl : Rg (0) (172032) (hI h r_6 o_7z.toNatClampNeg))
  refine s_ref e_r_5 ?_
  refine s_ref e_r_6 ?_
  refine s_pu (fun o_12z e_6 => ?_)
  try dsimp only
  have i_o_12z : Rg (-8192) (98240) (o_12z) := by rw [e_6]; exact (rg_add (rg_mulc (rg_add (rg_mulc i_v_4 (rg_b rfl : Rg (64) (64) ((64 : Int32))) (by decide) : Rg (-128) (1472) ((v_4 * (64 : Int32)))) i_x1 (by decide) : Rg (-128) (1535) (((v_4 * (64 : Int32)) + x1))) (rg_b rfl : Rg (64) (64) ((64 : Int32))) (by decide) : Rg (-8192) (98240) ((((v_4 * (64 : Int32)) + x1) * (64 : Int32)))) (rg_b rfl : Rg (0) (0) ((0 : Int32))) (by decide) : Rg (-8192) (98240) ((((v_4 * (64 : Int32)) + x1) * (64 : Int32)) + (0 : Int32)))
  have og_7 : Rg (0) (98304) (o_12z) := ⟨(by have := (i_o_12z : Rg (-8192) (98240) (o_12z)).1; have := (i_o_12z : Rg (-8192) (98240) (o_12z)).2; have : (o_12z).toInt = ((((v_4 * (64 : Int32)) + x1) * (64 : Int32)) + (0 : Int32) : Int32).toInt := congrArg Int32.toInt e_6; have : ((((v_4 * (64 : Int32)) + x1) * (64 : Int32)) + (0 : Int32) : Int32).toInt = ((((v_4 * (64 : Int32)) + x1) * (64 : Int32)) : Int32).toInt + ((0 : Int32) : Int32).toInt := ti_add ((rg_mulc (rg_add (rg_mulc i_v_4 (rg_b rfl : Rg (64) (64) ((64 : Int32))) (by decide) : Rg (-128) (1472) ((v_4 * (64 : Int32)))) i_x1 (by decide) : Rg (-128) (1535) (((v_4 * (64 : Int32)) + x1))) (rg_b rfl : Rg (64) (64) ((64 : Int32))) (by decide) : Rg (-8192) (98240) ((((v_4 * (64 : Int32)) + x1) * (64 : Int32)))) : Rg (-8192) (98240) ((((v_4 * (64 : Int32)) + x1) * (64 : Int32)))) ((rg_b rfl : Rg (0) (0) ((0 : Int32))) : Rg (0) (0) ((0 : Int32))) (by decide); have : ((((v_4 * (64 : Int32)) + x1) * (64 : Int32)) : Int32).toInt = 64 * (((v_4 * (64 : Int32)) + x1) : Int32).toInt := ti_mulc ((rg_add (rg_mulc i_v_4 (rg_b rfl : Rg (64) (64) ((64 : Int32))) (by decide) : Rg (-128) (1472) ((v_4 * (64 : Int32)))) i_x1 (by decide) : Rg (-128) (1535) (((v_4 * (64 : Int32)) + x1))) : Rg (-128) (1535) (((v_4 * (64 : Int32)) + x1))) (rg_b rfl : Rg 64 64 ((64 : Int32))) (by decide); have : (((v_4 * (64 : Int32)) + x1) : Int32).toInt = ((v_4 * (64 : Int32)) : Int32).toInt + (x1 : Int32).toInt := ti_add ((rg_mulc i_v_4 (rg_b rfl : Rg (64) (64) ((64 : Int32))) (by decide) : Rg (-128) (1472) ((v_4 * (64 : Int32)))) : Rg (-128) (1472) ((v_4 * (64 : Int32)))) (i_x1 : Rg (0) (63) (x1)) (by decide); have : ((v_4 * (64 : Int32)) : Int32).toInt = 64 * (v_4 : Int32).toInt := ti_mulc (i_v_4 : Rg (-2) (23) (v_4)) (rg_b rfl : Rg 64 64 ((64 : Int32))) (by decide); have := (i_v_4 : Rg (-2) (23) (v_4)).1; have := (i_v_4 : Rg (-2) (23) (v_4)).2; have : (v_4).toInt = (hI h r_2 x1.toNatClampNeg : Int32).toInt := congrArg Int32.toInt e_2; have hq_ := ((thI T q_r_2 (k := 34) rfl : Rg (-2) (23) (hI h r_2 x1.toNatClampNeg)) : Rg (-2) (23) (hI h r_2 x1.toNatClampNeg)); have := hq_.1; have := hq_.2; have := (i_x1 : Rg (0) (63) (x1)).1; have := (i_x1 : Rg (0) (63) (x1)).2; have : ((0 : Int32)).toInt = 0 := rfl; have hq_ := ((thI T q_r_2 (k := 34) rfl : Rg (-2) (23) ((hI h r_2 x1.toNatClampNeg))) : Rg (-2) (23) ((hI h r_2 x1.toNatClampNeg))); have := hq_.1; have := hq_.2; omega), (by have := (i_o_12z : Rg (-8192) (98240) (o_12z)).1; have := (i_o_12z : Rg (-8192) (98240) (o_12z)).2; have : (o_12z).toInt = ((((v_4 * (64 : Int32)) + x1) * (64 : Int32)) + (0 : Int32) : Int32).toInt := congrArg Int32.toInt e_6; have : ((((v_4 * (64 : Int32)) + x1) * (64 : Int32)) + (0 : Int32) : Int32).toInt = ((((v_4 * (64 : Int32)) + x1) * (64 : Int32)) : Int32).toInt + ((0 : Int32) : Int32).toInt := ti_add ((rg_mulc (rg_add (rg_mulc i_v_4 (rg_b rfl : Rg (64) (64) ((64 : Int32))) (by decide) : Rg (-128) (1472) ((v_4 * (64 : Int32)))) i_x1 (by decide) : Rg (-128) (1535) (((v_4 * (64 : Int32)) + x1))) (rg_b rfl : Rg (64) (64) ((64 : Int32))) (by decide) : Rg (-8192) (98240) ((((v_4 * (64 : Int32)) + x1) * (64 : Int32)))) : Rg (-8192) (98240) ((((v_4 * (64 : Int32)) + x1) * (64 : Int32)))) ((rg_b rfl : Rg (0) (0) ((0 : Int32))) : Rg (0) (0) ((0 : Int32))) (by decide); have : ((((v_4 * (64 : Int32)) + x1) * (64 : Int32)) : Int32).toInt = 64 * (((v_4 * (64 : Int32)) + x1) : Int32).toInt := ti_mulc ((rg_add (rg_mulc i_v_4 (rg_b rfl : Rg (64) (64) ((64 : Int32))) (by decide) : Rg (-128) (1472) ((v_4 * (64 : Int32)))) i_x1 (by decide) : Rg (-128) (1535) (((v_4 * (64 : Int32)) + x1))) : Rg (-128) (1535) (((v_4 * (64 : Int32)) + x1))) (rg_b rfl : Rg 64 64 ((64 : Int32))) (by decide); have : (((v_4 * (64 : Int32)) + x1) : Int32).toInt = ((v_4 * (64 : Int32)) : Int32).toInt + (x1 : Int32).toInt := ti_add ((rg_mulc i_v_4 (rg_b rfl : Rg (64) (64) ((64 : Int32))) (by decide) : Rg (-128) (1472) ((v_4 * (64 : Int32)))) : Rg (-128) (1472) ((v_4 * (64 : Int32)))) (i_x1 : Rg (0) (63) (x1)) (by decide); have : ((v_4 * (64 : Int32)) : Int32).toInt = 64 * (v_4 : Int32).toInt := ti_mulc (i_v_4 : Rg (-2) (23) (v_4)) (rg_b rfl : Rg 64 64 ((64 : Int32))) (by decide); have := (i_v_4 : Rg (-2) (23) (v_4)).1; have := (i_v_4 : Rg (-2) (23) (v_4)).2; have : (v_4).toInt = (hI h r_2 x1.toNatClampNeg : Int32).toInt := congrArg Int32.toInt e_2; have hq_ := ((thI T q_r_2 (k := 34) rfl : Rg (-2) (23) (hI h r_2 x1.toNatClampNeg)) : Rg (-2) (23) (hI h r_2 x1.toNatClampNeg)); have := hq_.1; have := hq_.2; have := (i_x1 : Rg (0) (63) (x1)).1; have := (i_x1 : Rg (0) (63) (x1)).2; have : ((0 : Int32)).toInt = 0 := rfl; have hq_ := ((thI T q_r_2 (k := 34) rfl : Rg (-2) (23) ((hI h r_2 x1.toNatClampNeg))) : Rg (-2) (23) ((hI h r_2 x1.toNatClampNeg))); have := hq_.1; have := hq_.2; omega)⟩
  refine s_gd (by rw [thN T q_r_6 (k := 50) (n := 98305) rfl (by decide)]; exact rg_inB (og_7 : Rg (0) (98304) (o_12z)) (by decide)) ?_
  refine s_q (fun v_14 e_8 => ?_)
  have i_v_14 : Rg (0) (172032) (v_14) := by rw [e_8]; exact (thI T q_r_6 (k := 50) rfl : Rg (0) (172032) (hI h r_6 o_12z.toNatClampNeg))
  have og_9 : Rg (0) (23) (v_4) := ⟨(by have := (i_v_4 : Rg (-2) (23) (v_4)).1; have := (i_v_4 : Rg (-2) (23) (v_4)).2; have : (v_4).toInt = (hI h r_2 x1.toNatClampNeg : Int32).toInt := congrArg Int32.toInt e_2; have hq_ := ((thI T q_r_2 (k := 34) rfl : Rg (-2) (23) (hI h r_2 x1.toNatClampNeg)) : Rg (-2) (23) (hI h r_2 x1.toNatClampNeg)); have := hq_.1; have := hq_.2; have hq_ := ((thI T q_r_2 (k := 34) rfl : Rg (-2) (23) ((hI h r_2 x1.toNatClampNeg))) : Rg (-2) (23) ((hI h r_2 x1.toNatClampNeg))); have := hq_.1; have := hq_.2; have := (i_x1 : Rg (0) (63) (x1)).1; have := (i_x1 : Rg (0) (63) (x1)).2; omega), (by have := (i_v_4 : Rg (-2) (23) (v_4)).1; have := (i_v_4 : Rg (-2) (23) (v_4)).2; have : (v_4).toInt = (hI h r_2 x1.toNatClampNeg : Int32).toInt := congrArg Int32.toInt e_2; have hq_ := ((thI T q_r_2 (k := 34) rfl : Rg (-2) (23) (hI h r_2 x1.toNatClampNeg)) : Rg (-2) (23) (hI h r_2 x1.toNatClampNeg)); have := hq_.1; have := hq_.2; have hq_ := ((thI T q_r_2 (k := 34) rfl : Rg (-2) (23) ((hI h r_2 x1.toNatClampNeg))) : Rg (-2) (23) ((hI h r_2 x1.toNatClampNeg))); have := hq_.1; have := hq_.2; have := (i_x1 : Rg (0) (63) (x1)).1; have := (i_x1 : Rg (0) (63) (x1)).2; omega)⟩
  have m_10 : Rg (0) (172032) (v_14) := i_v_14
  exact zX5_addSteps_45 hF m3 m4 (pmA_s hA rfl) F T r_x0 i_x1 og_9 (rg_m (rg_b rfl : Rg (-1) (-1) ((- 1 : Int32))) (by decide)) i_v_9 i_v_14 s1 (by have := m_10.1; have := m_10.2; omega)
set_option maxRecDepth 20000 in
theorem zX5_survey_135 {ρ : Nat → Nat} {c : Cm} {F : Nat} (hF : 700000 ≤ F) {k_30 : Hp → Nat → Int32 → Int64 → Int64 → Int32 → Option (Hp)} {C_30 : Int} (hk_30 : ∀ {h : Hp} {x0 : Nat} {x1 : Int32} {x2 : Int64} {x4 : Int64} {x6 : Int32}, TH ρ c h → ρ x0 = 6 → Rg (0) (63) (x1) → Rg (0) (64) (x6) → (OnMen x0 x4 h) → C_30 < x6.toInt → Sat (k_30 h x0 x1 x2 x4 x6) (ZV ρ c)) (hA : pmA c [(6, 8), (6, 9)]) : ∀ (f : Nat) {h : Hp} {x0 : Nat} {x1 : Int32} {x2 : Int64} {x4 : Int64} {x6 : Int32} {x11 : Int32} {x12 : Int32}, TH ρ c h → ρ x0 = 6 → Rg (0) (63) (x1) → Rg (0) (63) (x6) → Rg (0) (98303) (x11) → Rg (0) (172032) (x12) → C_30 ≤ x6.toInt → (OnMen x0 x4 h) → (172032 - x12.toInt).toNat < f → Sat (sX5_survey_135 F k_30 f h x0 x1 x2 x4 x6 x11 x12) (ZV ρ c) := by
  intro f
  induction f with
  | zero => intros; omega
  | succ f ih =>
    intro h x0 x1 x2 x4 x6 x11 x12 T r_x0 i_x1 i_x6 i_x11 i_x12 hc_30 om hm
    rw [sX5_survey_135]
    unfold sX5_survey_224 sX5_survey_214 sX5_survey_215 sX5_survey_218
    obtain ⟨C_135, hC_135⟩ : ∃ C : Int, C = x12.toInt := ⟨_, rfl⟩
    have hk_135 : ∀ {h : Hp} {x0 : Nat} {x1 : Int32} {x2 : Int64} {x4 : Int64} {x6 : Int32} {x11 : Int32} {x12 : Int32}, TH ρ c h → ρ x0 = 6 → Rg (0) (63) (x1) → Rg (0) (63) (x6) → Rg (0) (98303) (x11) → Rg (0) (172032) (x12) → C_30 ≤ x6.toInt → (OnMen x0 x4 h) → C_135 < x12.toInt → Sat (sX5_survey_135 F k_30 f h x0 x1 x2 x4 x6 x11 x12) (ZV ρ c) := by
      intro h' x0' x1' x2' x4' x6' x11' x12' T' r_x0' i_x1' i_x6' i_x11' i_x12' hc_30' om' hl
      exact ih T' r_x0' i_x1' i_x6' i_x11' i_x12' hc_30' om' (by have := i_x12'.1; have := i_x12'.2; omega)
    have hc_135 : C_135 ≤ x12.toInt := by omega
    obtain ⟨r_1, e_r_1, q_r_1⟩ := thR T r_x0 (k := 6) (i := 1) (k2 := 11) rfl (by decide)
    refine s_ref e_r_1 ?_
    obtain ⟨r_2, e_r_2, q_r_2⟩ := thR T q_r_1 (k := 11) (i := 0) (k2 := 50) rfl (by decide)
    refine s_ref e_r_2 ?_
    refine s_gd (by rw [thN T q_r_2 (k := 50) (n := 98305) rfl (by decide)]; exact rg_inB ((rg_m (rg_add i_x11 (rg_b rfl : Rg (1) (1) ((1 : Int32))) (by decide) : Rg (1) (98304) ((x11 + (1 : Int32)))) (by decide)) : Rg (0) (98304) ((x11 + (1 : Int32)))) (by decide)) ?_
    refine s_br (fun c_1 => ?_) (fun c_1 => ?_)
    · have _ := c_1
      refine s_q (fun v_1q1 e_2 => ?_)
      have i_v_1q1 : Rg (1) (64) (v_1q1) := by rw [e_2]; exact (rg_add i_x6 (rg_b rfl : Rg (1) (1) ((1 : Int32))) (by decide) : Rg (1) (64) (x6 + (1 : Int32)))
      have m_3 : (v_1q1).toInt = x6.toInt + 1 := by rw [e_2]; exact rg_inc i_x6 (by decide)
      exact hk_30 T r_x0 i_x1 (rg_m i_v_1q1 (by decide)) om (by have := hc_30; omega)
    · have _ := c_1
      have i_f_4 : Rg (0) (172031) (x12) := rg_lt1 (nle_lt c_1) i_x12 (thI T q_r_2 (k := 50) rfl : Rg (0) (172032) ((hI h r_2 (x11 + (1 : Int32)).toNatClampNeg)))
      have i_f_5 : Rg (1) (172032) ((hI h r_2 (x11 + (1 : Int32)).toNatClampNeg)) := rg_lt2 (nle_lt c_1) i_x12 (thI T q_r_2 (k := 50) rfl : Rg (0) (172032) ((hI h r_2 (x11 + (1 : Int32)).toNatClampNeg)))
      refine s_ref e_r_1 ?_
      obtain ⟨r_6, e_r_6, q_r_6⟩ := thR T q_r_1 (k := 11) (i := 1) (k2 := 51) rfl (by decide)
      refine s_ref e_r_6 ?_
      refine s_gd (by rw [thN T q_r_6 (k := 51) (n := 172032) rfl (by decide)]; exact rg_inB (i_f_4 : Rg (0) (172031) (x12)) (by decide)) ?_
      refine s_br (fun c_6 => ?_) (fun c_6 => ?_)
      · have _ := c_6
        have i_f_7 : Rg (0) (0) ((((hI h r_6 x12.toNatClampNeg) >>> ((6 : Int32) &&& 31)) &&& (1 : Int32))) := rg_eq c_6 (rg_b rfl : Rg (0) (0) (0 : Int32))
        refine s_ref e_r_1 ?_
        obtain ⟨r_10, e_r_10, q_r_10⟩ := thR T q_r_1 (k := 11) (i := 2) (k2 := 52) rfl (by decide)
        refine s_ref e_r_10 ?_
        refine s_gd (by rw [thN T q_r_10 (k := 52) (n := 172032) rfl (by decide)]; exact rg_inB (i_f_4 : Rg (0) (172031) (x12)) (by decide)) ?_
        refine s_hq (th_wJ T r_x0 (k := 6) (by decide) (pm_a hA rfl)) (fun h_12 T_8 w_9 => ?_)
        refine s_br (fun c_10 => ?_) (fun c_10 => ?_)
        · have _ := c_10
          have i_f_11 : Rg (0) (0) ((hI h_12 x0 9)) := rg_eq c_10 (rg_b rfl : Rg (0) (0) (0 : Int32))
          refine s_gd (rg_bool (rg_m (rg_b rfl : Rg (0) (0) ((0 : Int32))) (by decide))) ?_
          refine s_hq (th_wI T_8 r_x0 (k := 6) (lo := (0)) (hi := (1)) rfl ((rg_m (rg_b rfl : Rg (0) (0) ((0 : Int32))) (by decide)) : Rg (0) (1) ((0 : Int32))) (by decide) (by decide) (pm_a hA rfl)) (fun h_2q3 T_12 w_13 => ?_)
          refine s_q (fun v_1q4 e_14 => ?_)
          have i_v_1q4 : Rg (1) (172032) (v_1q4) := by rw [e_14]; exact (rg_add i_f_4 (rg_b rfl : Rg (1) (1) ((1 : Int32))) (by decide) : Rg (1) (172032) (x12 + (1 : Int32)))
          have m_15 : (v_1q4).toInt = x12.toInt + 1 := by rw [e_14]; exact rg_inc i_f_4 (by decide)
          exact hk_135 T_12 r_x0 i_x1 i_x6 i_x11 (rg_m i_v_1q4 (by decide)) hc_30 (om_w T_8 r_x0 w_13 (fun q => absurd (r_x0.symm.trans q) (by decide)) (om_j w_9 om)) (by have := hc_135; omega)
        · have _ := c_10
          have i_f_16 : Rg (1) (1) ((hI h_12 x0 9)) := rg_nlo c_10 (thI T_8 r_x0 (k := 6) (i := 9) rfl : Rg (0) (1) ((hI h_12 x0 9))) (rg_b rfl : Rg (0) (0) (0 : Int32))
          refine s_ref (hr_j w_9 e_r_1) ?_
          refine s_dI0 (zX10_isOpen hF T_8 q_r_1 i_f_4) (fun o_15 eb_o_15 e_o_15 i_o_15 => ?_)
          have T_17 := th_eq e_o_15 T_8
          refine s_br (fun c_18 => ?_) (fun c_18 => ?_)
          · have _ := c_18
            have i_f_19 : Rg (0) (0) (o_15.1) := rg_eq c_18 (rg_b rfl : Rg (0) (0) (0 : Int32))
            refine s_gd (rg_bool (rg_m (rg_b rfl : Rg (1) (1) ((1 : Int32))) (by decide))) ?_
            refine s_hq (th_wI T_17 r_x0 (k := 6) (lo := (0)) (hi := (1)) rfl ((rg_m (rg_b rfl : Rg (1) (1) ((1 : Int32))) (by decide)) : Rg (0) (1) ((1 : Int32))) (by decide) (by decide) (pm_a hA rfl)) (fun h_2q5 T_20 w_21 => ?_)
            refine s_q (fun v_1q6 e_22 => ?_)
            have i_v_1q6 : Rg (1) (172032) (v_1q6) := by rw [e_22]; exact (rg_add i_f_4 (rg_b rfl : Rg (1) (1) ((1 : Int32))) (by decide) : Rg (1) (172032) (x12 + (1 : Int32)))
            have m_23 : (v_1q6).toInt = x12.toInt + 1 := by rw [e_22]; exact rg_inc i_f_4 (by decide)
            exact hk_135 T_20 r_x0 i_x1 i_x6 i_x11 (rg_m i_v_1q6 (by decide)) hc_30 (om_w T_17 r_x0 w_21 (fun q => absurd (r_x0.symm.trans q) (by decide)) (om_e e_o_15 (om_j w_9 om))) (by have := hc_135; omega)
          · have _ := c_18
            have i_f_24 : Rg (1) (1) (o_15.1) := rg_nlo c_18 i_o_15 (rg_b rfl : Rg (0) (0) (0 : Int32))
            refine s_gd (rg_bool (rg_m (rg_b rfl : Rg (0) (0) ((0 : Int32))) (by decide))) ?_
            refine s_hq (th_wI T_17 r_x0 (k := 6) (lo := (0)) (hi := (1)) rfl ((rg_m (rg_b rfl : Rg (0) (0) ((0 : Int32))) (by decide)) : Rg (0) (1) ((0 : Int32))) (by decide) (by decide) (pm_a hA rfl)) (fun h_2q8 T_25 w_26 => ?_)
            refine s_q (fun v_1q9 e_27 => ?_)
            have i_v_1q9 : Rg (1) (172032) (v_1q9) := by rw [e_27]; exact (rg_add i_f_4 (rg_b rfl : Rg (1) (1) ((1 : Int32))) (by decide) : Rg (1) (172032) (x12 + (1 : Int32)))
            have m_28 : (v_1q9).toInt = x12.toInt + 1 := by rw [e_27]; exact rg_inc i_f_4 (by decide)
            exact hk_135 T_25 r_x0 i_x1 i_x6 i_x11 (rg_m i_v_1q9 (by decide)) hc_30 (om_w T_17 r_x0 w_26 (fun q => absurd (r_x0.symm.trans q) (by decide)) (om_e e_o_15 (om_j w_9 om))) (by have := hc_135; omega)
      · have _ := c_6
        have i_f_29 : Rg (1) (1) ((((hI h r_6 x12.toNatClampNeg) >>> ((6 : Int32) &&& 31)) &&& (1 : Int32))) := rg_nlo c_6 (rg_and (rg_b rfl : Rg (1) (1) ((1 : Int32))) (by decide) : Rg (0) (1) ((((hI h r_6 x12.toNatClampNeg) >>> ((6 : Int32) &&& 31)) &&& (1 : Int32)))) (rg_b rfl : Rg (0) (0) (0 : Int32))
        refine s_q (fun v_1q10 e_30 => ?_)
        have i_v_1q10 : Rg (1) (172032) (v_1q10) := by rw [e_30]; exact (rg_add i_f_4 (rg_b rfl : Rg (1) (1) ((1 : Int32))) (by decide) : Rg (1) (172032) (x12 + (1 : Int32)))
        have m_31 : (v_1q10).toInt = x12.toInt + 1 := by rw [e_30]; exact rg_inc i_f_4 (by decide)
        exact hk_135 T r_x0 i_x1 i_x6 i_x11 (rg_m i_v_1q10 (by decide)) hc_30 om (by have := hc_135; omega)
set_option maxRecDepth 20000 in
theorem zX5_survey_30 {ρ : Nat → Nat} {c : Cm} {F : Nat} (hF : 700000 ≤ F) (m3 : c.2.1 3 = true) (hA : pmA c [(6, 8), (6, 9)]) : ∀ (f : Nat) {h : Hp} {x0 : Nat} {x1 : Int32} {x2 : Int64} {x4 : Int64} {x6 : Int32}, TH ρ c h → ρ x0 = 6 → Rg (0) (63) (x1) → Rg (0) (64) (x6) → (OnMen x0 x4 h) → (64 - x6.toInt).toNat < f → Sat (sX5_survey_30 F f h x0 x1 x2 x4 x6) (ZV ρ c) := by
  intro f
  induction f with
  | zero => intros; omega
  | succ f ih =>
    intro h x0 x1 x2 x4 x6 T r_x0 i_x1 i_x6 om hm
    rw [sX5_survey_30]
    unfold sX5_survey_230 sX5_survey_224 sX10_cell
    obtain ⟨C_30, hC_30⟩ : ∃ C : Int, C = x6.toInt := ⟨_, rfl⟩
    have hk_30 : ∀ {h : Hp} {x0 : Nat} {x1 : Int32} {x2 : Int64} {x4 : Int64} {x6 : Int32}, TH ρ c h → ρ x0 = 6 → Rg (0) (63) (x1) → Rg (0) (64) (x6) → (OnMen x0 x4 h) → C_30 < x6.toInt → Sat (sX5_survey_30 F f h x0 x1 x2 x4 x6) (ZV ρ c) := by
      intro h' x0' x1' x2' x4' x6' T' r_x0' i_x1' i_x6' om' hl
      exact ih T' r_x0' i_x1' i_x6' om' (by have := i_x6'.1; have := i_x6'.2; omega)
    have hc_30 : C_30 ≤ x6.toInt := by omega
    refine s_br (fun c_1 => ?_) (fun c_1 => ?_)
    · have _ := c_1
      have i_f_2 : Rg (64) (64) (x6) := rg_le2 c_1 (rg_b rfl : Rg (64) (64) ((64 : Int32))) i_x6
      exact s_some (T)
    · have _ := c_1
      have i_f_3 : Rg (0) (63) (x6) := rg_lt1 (nle_lt c_1) i_x6 (rg_b rfl : Rg (64) (64) ((64 : Int32)))
      refine s_br (fun c_4 => ?_) (fun c_4 => ?_)
      · have _ := c_4
        exact s_some (T)
      · have _ := c_4
        refine s_q (fun v_3 e_5 => ?_)
        refine s_q (fun v_4 e_6 => ?_)
        refine s_gd (rg_inB ((rg_58 _ : Rg (0) (63) (((((v_3 * (285870213051386505 : Int64)).toUInt64 >>> ((58 : Int32).toInt64.toUInt64 &&& Int64.toUInt64 63)).toInt64).toInt32))) : Rg (0) (63) (((((v_3 * (285870213051386505 : Int64)).toUInt64 >>> ((58 : Int32).toInt64.toUInt64 &&& Int64.toUInt64 63)).toInt64).toInt32))) (by decide)) ?_
        refine s_q (fun v_6 e_7 => ?_)
        have i_v_6 : Rg (0) (63) (v_6) := by rw [e_7]; exact (rg_sq _ : Rg (0) (63) (sqT.getD ((((v_3 * (285870213051386505 : Int64)).toUInt64 >>> ((58 : Int32).toInt64.toUInt64 &&& Int64.toUInt64 63)).toInt64).toInt32).toNatClampNeg 0))
        obtain ⟨r_7, e_r_7, q_r_7⟩ := thM T r_x0 (k := 6) (i := 4) (j := 3) (k2 := 4) rfl (by decide) rfl (by decide) m3
        refine s_ref e_r_7 ?_
        obtain ⟨r_8, e_r_8, q_r_8⟩ := thR T q_r_7 (k := 4) (i := 0) (k2 := 34) rfl (by decide)
        refine s_ref e_r_8 ?_
        refine s_gd (by rw [thN T q_r_8 (k := 34) (n := 64) rfl (by decide)]; exact rg_inB (i_v_6 : Rg (0) (63) (v_6)) (by decide)) ?_
        refine s_q (fun v_10 e_8 => ?_)
        have i_v_10 : Rg (-2) (23) (v_10) := by rw [e_8]; exact (thI T q_r_8 (k := 34) rfl : Rg (-2) (23) (hI h r_8 v_6.toNatClampNeg))
        have hv_9 : Rg 0 23 v_10 := ⟨by rw [e_8]; exact om _ _ _ e_r_7 e_r_8 (show v_6.toNatClampNeg < 64 by have := rg_clamp (n := 63) i_v_6 (by decide); omega) (by rw [e_7, e_5]; exact sq_bit (cmp0 c_4)), i_v_10.2⟩
        obtain ⟨r_11, e_r_11, q_r_11⟩ := thR T r_x0 (k := 6) (i := 1) (k2 := 11) rfl (by decide)
        refine s_ref e_r_11 ?_
        obtain ⟨r_12, e_r_12, q_r_12⟩ := thR T q_r_11 (k := 11) (i := 4) (k2 := 54) rfl (by decide)
        refine s_ref e_r_12 ?_
        refine s_gd (by rw [thN T q_r_12 (k := 54) (n := 1536) rfl (by decide)]; exact rg_inB ((rg_add (rg_mulc hv_9 (rg_b rfl : Rg (64) (64) ((64 : Int32))) (by decide) : Rg (0) (1472) ((v_10 * (64 : Int32)))) i_x1 (by decide) : Rg (0) (1535) (((v_10 * (64 : Int32)) + x1))) : Rg (0) (1535) (((v_10 * (64 : Int32)) + x1))) (by decide)) ?_
        refine s_br (fun c_10 => ?_) (fun c_10 => ?_)
        · have _ := c_10
          refine s_q (fun v_1q3 e_11 => ?_)
          have i_v_1q3 : Rg (1) (64) (v_1q3) := by rw [e_11]; exact (rg_add i_f_3 (rg_b rfl : Rg (1) (1) ((1 : Int32))) (by decide) : Rg (1) (64) (x6 + (1 : Int32)))
          have om_12 : OnMen x0 v_4 h := by rw [e_6, e_5]; exact om_rest (cmp0 c_4) om
          have m_13 : (v_1q3).toInt = x6.toInt + 1 := by rw [e_11]; exact rg_inc i_f_3 (by decide)
          exact hk_30 T r_x0 i_x1 (rg_m i_v_1q3 (by decide)) om_12 (by have := hc_30; omega)
        · have _ := c_10
          refine s_pu (fun o_15z e_14 => ?_)
          try dsimp only
          have i_o_15z : Rg (0) (98303) (o_15z) := by rw [e_14]; exact (rg_add (rg_mulc (rg_add (rg_mulc hv_9 (rg_b rfl : Rg (64) (64) ((64 : Int32))) (by decide) : Rg (0) (1472) ((v_10 * (64 : Int32)))) i_v_6 (by decide) : Rg (0) (1535) (((v_10 * (64 : Int32)) + v_6))) (rg_b rfl : Rg (64) (64) ((64 : Int32))) (by decide) : Rg (0) (98240) ((((v_10 * (64 : Int32)) + v_6) * (64 : Int32)))) i_x1 (by decide) : Rg (0) (98303) ((((v_10 * (64 : Int32)) + v_6) * (64 : Int32)) + x1))
          refine s_ref e_r_11 ?_
          obtain ⟨r_17, e_r_17, q_r_17⟩ := thR T q_r_11 (k := 11) (i := 0) (k2 := 50) rfl (by decide)
          refine s_ref e_r_17 ?_
          refine s_gd (by rw [thN T q_r_17 (k := 50) (n := 98305) rfl (by decide)]; exact rg_inB ((rg_m i_o_15z (by decide)) : Rg (0) (98304) (o_15z)) (by decide)) ?_
          refine s_q (fun v_19 e_15 => ?_)
          have i_v_19 : Rg (0) (172032) (v_19) := by rw [e_15]; exact (thI T q_r_17 (k := 50) rfl : Rg (0) (172032) (hI h r_17 o_15z.toNatClampNeg))
          have om_16 : OnMen x0 v_4 h := by rw [e_6, e_5]; exact om_rest (cmp0 c_4) om
          have m_17 : Rg (0) (172032) (v_19) := i_v_19
          exact zX5_survey_135 hF @hk_30 (pmA_s hA rfl) F T r_x0 i_x1 i_f_3 i_o_15z i_v_19 hc_30 om_16 (by have := m_17.1; have := m_17.2; omega)
set_option maxRecDepth 20000 in
theorem zX5_survey {ρ : Nat → Nat} {c : Cm} {F : Nat} (hF : 700000 ≤ F) (m3 : c.2.1 3 = true) (hA : pmA c [(6, 8), (6, 9)]) {h : Hp} {x0 : Nat} {x1 : Int32} (T : TH ρ c h) (r_x0 : ρ x0 = 6) (i_x1 : Rg (0) (63) (x1)) : Sat (sX5_survey F h x0 x1) (ZV ρ c) := by
  unfold sX5_survey 
  obtain ⟨r_1, e_r_1, q_r_1⟩ := thM T r_x0 (k := 6) (i := 4) (j := 3) (k2 := 4) rfl (by decide) rfl (by decide) m3
  refine s_ref e_r_1 ?_
  refine s_dJ0 (zX3_occupied hF T q_r_1) (fun o_2 eb_o_2 e_o_2 => ?_)
  have T_1 := th_eq e_o_2 T
  refine s_ref (hr_e e_o_2 e_r_1) ?_
  obtain ⟨r_4, e_r_4, q_r_4⟩ := thR T_1 q_r_1 (k := 4) (i := 1) (k2 := 35) rfl (by decide)
  refine s_ref e_r_4 ?_
  refine s_ref (hr_e e_o_2 e_r_1) ?_
  refine s_gd (by rw [thN T_1 q_r_4 (k := 35) (n := 2) rfl (by decide)]; exact rg_inB ((rg_sub (rg_b rfl : Rg (1) (1) ((1 : Int32))) (thI T_1 q_r_1 (k := 4) (i := 5) rfl : Rg (0) (1) ((hI o_2.2 r_1 5))) (by decide) : Rg (0) (1) (((1 : Int32) - (hI o_2.2 r_1 5)))) : Rg (0) (1) (((1 : Int32) - (hI o_2.2 r_1 5)))) (by decide)) ?_
  refine s_q (fun v_7 e_2 => ?_)
  have om_3 : OnMen x0 v_7 o_2.2 := by rw [e_2]; exact om_start T_1 r_x0 (hr_e e_o_2 e_r_1) e_r_4 (show ((1 : Int32) - (hI o_2.2 r_1 5)).toNatClampNeg < 2 by have := rg_clamp (n := 1) ((rg_sub (rg_b rfl : Rg (1) (1) ((1 : Int32))) (thI T_1 q_r_1 (k := 4) (i := 5) rfl : Rg (0) (1) ((hI o_2.2 r_1 5))) (by decide) : Rg (0) (1) (((1 : Int32) - (hI o_2.2 r_1 5)))) : Rg 0 1 ((1 : Int32) - (hI o_2.2 r_1 5))) (by decide); omega)
  have m_4 : Rg (0) (64) ((0 : Int32)) := (rg_m (rg_b rfl : Rg (0) (0) ((0 : Int32))) (by decide))
  exact zX5_survey_30 hF m3 (pmA_s hA rfl) F T_1 r_x0 i_x1 (rg_m (rg_b rfl : Rg (0) (0) ((0 : Int32))) (by decide)) om_3 (by have := m_4.1; have := m_4.2; omega)
set_option maxRecDepth 20000 in
theorem zX5_begin_54 {ρ : Nat → Nat} {c : Cm} {F : Nat} (hF : 700000 ≤ F) (m3 : c.2.1 3 = true) (hA : pmA c [(6, 8), (6, 9)]) {h : Hp} {x0 : Nat} {t0 : Int32} {t1 : Nat} (T : TH ρ c h) (r_x0 : ρ x0 = 6) (i_t0 : Rg (0) (1) (t0)) (r_t1 : ρ t1 = 6) : Sat (sX5_begin_54 F h x0 t0 t1) (ZV ρ c) := by
  unfold sX5_begin_54 sX5_begin_102
  refine s_gd (rg_bool i_t0) ?_
  refine s_hq (th_wI T r_t1 (k := 6) (lo := (0)) (hi := (1)) rfl (i_t0 : Rg (0) (1) (t0)) (by decide) (by decide) (pm_a hA rfl)) (fun h_2 T_1 w_2 => ?_)
  refine s_br (fun c_3 => ?_) (fun c_3 => ?_)
  · have _ := c_3
    have i_f_4 : Rg (0) (0) ((hI h_2 x0 9)) := rg_eq c_3 (rg_b rfl : Rg (0) (0) (0 : Int32))
    exact s_some (T_1)
  · have _ := c_3
    have i_f_5 : Rg (1) (1) ((hI h_2 x0 9)) := rg_nlo c_3 (thI T_1 r_x0 (k := 6) (i := 9) rfl : Rg (0) (1) ((hI h_2 x0 9))) (rg_b rfl : Rg (0) (0) (0 : Int32))
    obtain ⟨r_4, e_r_4, q_r_4⟩ := thM T_1 r_x0 (k := 6) (i := 4) (j := 3) (k2 := 4) rfl (by decide) rfl (by decide) m3
    refine s_ref e_r_4 ?_
    obtain ⟨r_5, e_r_5, q_r_5⟩ := thR T_1 q_r_4 (k := 4) (i := 2) (k2 := 36) rfl (by decide)
    refine s_ref e_r_5 ?_
    refine s_ref e_r_4 ?_
    refine s_gd (by rw [thN T_1 q_r_5 (k := 36) (n := 2) rfl (by decide)]; exact rg_inB ((thI T_1 q_r_4 (k := 4) (i := 5) rfl : Rg (0) (1) ((hI h_2 r_4 5))) : Rg (0) (1) ((hI h_2 r_4 5))) (by decide)) ?_
    refine s_br (fun c_6 => ?_) (fun c_6 => ?_)
    · have _ := c_6
      have i_f_7 : Rg (-1) (-1) ((hI h_2 r_5 (hI h_2 r_4 5).toNatClampNeg)) := rg_eq c_6 (rg_b rfl : Rg (-1) (-1) ((- 1 : Int32)))
      exact s_some (T_1)
    · have _ := c_6
      have i_f_8 : Rg (0) (63) ((hI h_2 r_5 (hI h_2 r_4 5).toNatClampNeg)) := rg_nlo c_6 (thI T_1 q_r_5 (k := 36) rfl : Rg (-1) (63) ((hI h_2 r_5 (hI h_2 r_4 5).toNatClampNeg))) (rg_b rfl : Rg (-1) (-1) ((- 1 : Int32)))
      refine s_ref e_r_4 ?_
      refine s_ref e_r_5 ?_
      refine s_ref e_r_4 ?_
      refine s_gd (by rw [thN T_1 q_r_5 (k := 36) (n := 2) rfl (by decide)]; exact rg_inB ((thI T_1 q_r_4 (k := 4) (i := 5) rfl : Rg (0) (1) ((hI h_2 r_4 5))) : Rg (0) (1) ((hI h_2 r_4 5))) (by decide)) ?_
      refine s_cV (zX5_survey hF m3 (pmA_s hA rfl) T_1 r_x0 i_f_8) (fun o_13 T_9 => ?_)
      exact s_some (T_9)
set_option maxRecDepth 20000 in
theorem zX5_begin {ρ : Nat → Nat} {c : Cm} {F : Nat} {w_x1 w_x2 : Nat} (hF : 700000 ≤ F) (hA : pmA c [(6, 4), (6, 5), (6, 6), (6, 7), (6, 8), (6, 9)]) {h : Hp} {x0 : Nat} {x1 : Nat} {x2 : Nat} (o_x1 : cw c x1 = w_x1) (o_x2 : cw c x2 = w_x2) (T : TH ρ c h) (r_x0 : ρ x0 = 6) (r_x1 : ρ x1 = 4) (r_x2 : ρ x2 = 47) : Sat (sX5_begin F h x0 x1 x2) (ZV ρ c) := by
  unfold sX5_begin sX5_begin_49
  refine s_hq (th_wR T r_x0 (k := 6) (i := 4) (j := 3) (k2 := 4) rfl (by decide) rfl (by decide) r_x1 rfl nid_3 (by decide) (by decide) rfl rfl (fun z => absurd rfl z) (pm_a hA rfl)) (fun h_1 T_1 w_2 => ?_)
  refine s_hq (th_wR T_1 r_x0 (k := 6) (i := 5) (j := 4) (k2 := 47) rfl (by decide) rfl (by decide) r_x2 rfl nid_4 (by decide) (by decide) rfl rfl (fun z => absurd rfl z) (pm_a hA rfl)) (fun h_2 T_3 w_4 => ?_)
  refine s_hq (th_wI T_3 r_x0 (k := 6) (lo := (0)) (hi := (4096)) rfl ((rg_m (rg_b rfl : Rg (0) (0) ((0 : Int32))) (by decide)) : Rg (0) (4096) ((0 : Int32))) (by decide) (by decide) (pm_a hA rfl)) (fun h_3 T_5 w_6 => ?_)
  refine s_hq (th_wI T_5 r_x0 (k := 6) (lo := (0)) (hi := (1)) rfl ((rg_m (rg_b rfl : Rg (0) (0) ((0 : Int32))) (by decide)) : Rg (0) (1) ((0 : Int32))) (by decide) (by decide) (pm_a hA rfl)) (fun h_4 T_7 w_8 => ?_)
  refine s_hq (th_wJ T_7 r_x0 (k := 6) (by decide) (pm_a hA rfl)) (fun h_5 T_9 w_10 => ?_)
  obtain ⟨r_6, e_r_6, q_r_6⟩ := thR T_9 r_x0 (k := 6) (i := 0) (k2 := 2) rfl (by decide)
  refine s_ref e_r_6 ?_
  refine s_br (fun c_11 => ?_) (fun c_11 => ?_)
  · have _ := c_11
    have i_f_12 : Rg (-1) (-1) ((hI h_5 r_6 4)) := rg_eq c_11 (rg_b rfl : Rg (-1) (-1) ((- 1 : Int32)))
    exact s_imp (zX5_begin_54 hF (nst_o nst_s) (pmA_s hA rfl) T_9 r_x0 (rg_m (rg_b rfl : Rg (1) (1) ((1 : Int32))) (by decide)) r_x0) (fun o ho => th_un (th_un (ho)))
  · have _ := c_11
    have i_f_13 : Rg (0) (11) ((hI h_5 r_6 4)) := rg_nlo c_11 (thI T_9 q_r_6 (k := 2) (i := 4) rfl : Rg (-1) (11) ((hI h_5 r_6 4))) (rg_b rfl : Rg (-1) (-1) ((- 1 : Int32)))
    refine s_ref e_r_6 ?_
    refine s_dI0 (zX1_has (c := (nst (nst c 3) 4)) hF T_9 q_r_6 (rg_m (rg_b rfl : Rg (12) (12) ((12 : Int32))) (by decide))) (fun o_9 eb_o_9 e_o_9 i_o_9 => ?_)
    have T_14 := th_eq e_o_9 T_9
    refine s_br (fun c_15 => ?_) (fun c_15 => ?_)
    · have _ := c_15
      have i_f_16 : Rg (0) (0) (o_9.1) := rg_eq c_15 (rg_b rfl : Rg (0) (0) (0 : Int32))
      exact s_imp (zX5_begin_54 hF (nst_o nst_s) (pmA_s hA rfl) T_14 r_x0 (rg_m (rg_b rfl : Rg (1) (1) ((1 : Int32))) (by decide)) r_x0) (fun o ho => th_un (th_un (ho)))
    · have _ := c_15
      have i_f_17 : Rg (1) (1) (o_9.1) := rg_nlo c_15 i_o_9 (rg_b rfl : Rg (0) (0) (0 : Int32))
      exact s_imp (zX5_begin_54 hF (nst_o nst_s) (pmA_s hA rfl) T_14 r_x0 (rg_m (rg_b rfl : Rg (0) (0) ((0 : Int32))) (by decide)) r_x0) (fun o ho => th_un (th_un (ho)))
set_option maxRecDepth 20000 in
theorem zX5_blast_58 {ρ : Nat → Nat} {c : Cm} {F : Nat} {w_x1 : Nat} {g0 : Hp} (hF : 700000 ≤ F) (hO_x1 : pmO c w_x1 [(34, 999), (35, 999), (36, 999), (4, 7)]) : ∀ (f : Nat) {h : Hp} {x0 : Nat} {x1 : Nat} {x4 : Int64} {x6 : Int32}, cw c x1 = w_x1 → TH ρ c h → ρ x0 = 6 → ρ x1 = 4 → Rg (0) (64) (x6) → (RyC ρ c g0 h) → (64 - x6.toInt).toNat < f → Sat (sX5_blast_58 F f h x0 x1 x4 x6) (ZQ (ZV ρ c) (fun o => RyC ρ c g0 o)) := by
  intro f
  induction f with
  | zero => intros; omega
  | succ f ih =>
    intro h x0 x1 x4 x6 o_x1 T r_x0 r_x1 i_x6 ry hm
    rw [sX5_blast_58]
    unfold sX5_blast_130 sX5_blast_124
    obtain ⟨C_58, hC_58⟩ : ∃ C : Int, C = x6.toInt := ⟨_, rfl⟩
    have hk_58 : ∀ {h : Hp} {x0 : Nat} {x1 : Nat} {x4 : Int64} {x6 : Int32}, cw c x1 = w_x1 → TH ρ c h → ρ x0 = 6 → ρ x1 = 4 → Rg (0) (64) (x6) → (RyC ρ c g0 h) → C_58 < x6.toInt → Sat (sX5_blast_58 F f h x0 x1 x4 x6) (ZQ (ZV ρ c) (fun o => RyC ρ c g0 o)) := by
      intro h' x0' x1' x4' x6' o_x1' T' r_x0' r_x1' i_x6' ry' hl
      exact ih o_x1' T' r_x0' r_x1' i_x6' ry' (by have := i_x6'.1; have := i_x6'.2; omega)
    have hc_58 : C_58 ≤ x6.toInt := by omega
    refine s_br (fun c_1 => ?_) (fun c_1 => ?_)
    · have _ := c_1
      have i_f_2 : Rg (64) (64) (x6) := rg_le2 c_1 (rg_b rfl : Rg (64) (64) ((64 : Int32))) i_x6
      exact s_some ⟨(T), ry⟩
    · have _ := c_1
      have i_f_3 : Rg (0) (63) (x6) := rg_lt1 (nle_lt c_1) i_x6 (rg_b rfl : Rg (64) (64) ((64 : Int32)))
      refine s_br (fun c_4 => ?_) (fun c_4 => ?_)
      · have _ := c_4
        exact s_some ⟨(T), ry⟩
      · have _ := c_4
        refine s_dI0 (zX11_lowest hF T) (fun o_3 eb_o_3 e_o_3 i_o_3 => ?_)
        have T_5 := th_eq e_o_3 T
        refine s_q (fun v_4 e_6 => ?_)
        obtain ⟨r_5, e_r_5, q_r_5⟩ := thR T_5 r_x0 (k := 6) (i := 0) (k2 := 2) rfl (by decide)
        refine s_ref e_r_5 ?_
        obtain ⟨r_6, e_r_6, q_r_6⟩ := thR T_5 r_x1 (k := 4) (i := 0) (k2 := 34) rfl (by decide)
        refine s_ref e_r_6 ?_
        refine s_gd (by rw [thN T_5 q_r_6 (k := 34) (n := 64) rfl (by decide)]; exact rg_inB (i_o_3 : Rg (0) (63) (o_3.1)) (by decide)) ?_
        refine s_br (fun c_7 => ?_) (fun c_7 => ?_)
        · have _ := c_7
          have i_f_8 : Rg (0) (0) ((((hI o_3.2 r_5 11) >>> (((hI o_3.2 r_6 o_3.1.toNatClampNeg) >>> ((1 : Int32) &&& 31)) &&& 31)) &&& (1 : Int32))) := rg_eq c_7 (rg_b rfl : Rg (0) (0) (0 : Int32))
          refine s_ref e_r_5 ?_
          refine s_cVq (s_weq (zX3_put hF (pmO_e o_x1 hO_x1 rfl) T_5 r_x1 (rg_m i_o_3 (by decide)) (rg_m (rg_b rfl : Rg (-1) (-1) ((- 1 : Int32))) (by decide)) (rg_m (thI T_5 q_r_5 (k := 2) (i := 4) rfl : Rg (-1) (11) ((hI o_3.2 r_5 4))) (by decide)) (fun z => absurd z (by have := ((rg_b rfl : Rg (-1) (-1) ((- 1 : Int32))) : Rg (-1) (-1) (((- 1 : Int32)))).2; omega)))) (fun o_10 T_9 p_o_10 => ?_)
          have eb_o_10 := p_o_10
          refine s_q (fun v_1q3 e_10 => ?_)
          have i_v_1q3 : Rg (1) (64) (v_1q3) := by rw [e_10]; exact (rg_add i_f_3 (rg_b rfl : Rg (1) (1) ((1 : Int32))) (by decide) : Rg (1) (64) (x6 + (1 : Int32)))
          have pf_11 : RyC ρ c g0 o_10 := (rc_t (by rw [e_o_3]; exact ry) (rc_put T_5 r_x1 q_r_5 (th_id T_5 r_x0 (k := 6) (i := 0) (w := 2102) e_r_5 rfl (by decide)) ((rg_m (rg_b rfl : Rg (-1) (-1) ((- 1 : Int32))) (by decide)) : Rg (-2) (23) ((- 1 : Int32))) eb_o_10))
          have m_12 : (v_1q3).toInt = x6.toInt + 1 := by rw [e_10]; exact rg_inc i_f_3 (by decide)
          exact hk_58 o_x1 T_9 r_x0 r_x1 (rg_m i_v_1q3 (by decide)) pf_11 (by have := hc_58; omega)
        · have _ := c_7
          have i_f_13 : Rg (1) (1) ((((hI o_3.2 r_5 11) >>> (((hI o_3.2 r_6 o_3.1.toNatClampNeg) >>> ((1 : Int32) &&& 31)) &&& 31)) &&& (1 : Int32))) := rg_nlo c_7 (rg_and (rg_b rfl : Rg (1) (1) ((1 : Int32))) (by decide) : Rg (0) (1) ((((hI o_3.2 r_5 11) >>> (((hI o_3.2 r_6 o_3.1.toNatClampNeg) >>> ((1 : Int32) &&& 31)) &&& 31)) &&& (1 : Int32)))) (rg_b rfl : Rg (0) (0) (0 : Int32))
          refine s_q (fun v_1q4 e_14 => ?_)
          have i_v_1q4 : Rg (1) (64) (v_1q4) := by rw [e_14]; exact (rg_add i_f_3 (rg_b rfl : Rg (1) (1) ((1 : Int32))) (by decide) : Rg (1) (64) (x6 + (1 : Int32)))
          have pf_15 : RyC ρ c g0 o_3.2 := (by rw [e_o_3]; exact ry)
          have m_16 : (v_1q4).toInt = x6.toInt + 1 := by rw [e_14]; exact rg_inc i_f_3 (by decide)
          exact hk_58 o_x1 T_5 r_x0 r_x1 (rg_m i_v_1q4 (by decide)) pf_15 (by have := hc_58; omega)
set_option maxRecDepth 20000 in
theorem zX5_blast {ρ : Nat → Nat} {c : Cm} {F : Nat} {w_x1 : Nat} (hF : 700000 ≤ F) (hO_x1 : pmO c w_x1 [(34, 999), (35, 999), (36, 999), (4, 7)]) {h : Hp} {x0 : Nat} {x1 : Nat} {x2 : Int32} (o_x1 : cw c x1 = w_x1) (T : TH ρ c h) (r_x0 : ρ x0 = 6) (r_x1 : ρ x1 = 4) (i_x2 : Rg (-2147483648) (2147483647) (x2)) (gx : GMq (c.2.1 50) x2) : Sat (sX5_blast F h x0 x1 x2) (ZQ (ZV ρ c) (fun o => RyC ρ c h o)) := by
  unfold sX5_blast sX5_blast_20 sX5_comeTo
  obtain ⟨r_1, e_r_1, q_r_1⟩ := thR T r_x0 (k := 6) (i := 0) (k2 := 2) rfl (by decide)
  refine s_ref e_r_1 ?_
  refine s_dI0 (zX1_has hF T q_r_1 (rg_m (rg_b rfl : Rg (8) (8) ((8 : Int32))) (by decide))) (fun o_2 eb_o_2 e_o_2 i_o_2 => ?_)
  have T_1 := th_eq e_o_2 T
  refine s_br (fun c_2 => ?_) (fun c_2 => ?_)
  · have _ := c_2
    have i_f_3 : Rg (0) (0) (o_2.1) := rg_eq c_2 (rg_b rfl : Rg (0) (0) (0 : Int32))
    have pf_4 : RyC ρ c h o_2.2 := (by rw [e_o_2]; exact rc_0)
    exact s_some ⟨(T_1), pf_4⟩
  · have _ := c_2
    have i_f_5 : Rg (1) (1) (o_2.1) := rg_nlo c_2 i_o_2 (rg_b rfl : Rg (0) (0) (0 : Int32))
    refine s_dI0 (zX5_takenBy hF T_1 i_x2 gx) (fun o_4 eb_o_4 e_o_4 i_o_4 => ?_)
    have T_6 := th_eq e_o_4 T_1
    refine s_br (fun c_7 => ?_) (fun c_7 => ?_)
    · have _ := c_7
      have i_f_8 : Rg (-1) (-1) (o_4.1) := rg_eq c_7 (rg_b rfl : Rg (-1) (-1) ((- 1 : Int32)))
      have pf_9 : RyC ρ c h o_4.2 := (by rw [e_o_4]; exact (by rw [e_o_2]; exact rc_0))
      exact s_some ⟨(T_6), pf_9⟩
    · have _ := c_7
      have i_f_10 : Rg (0) (11) (o_4.1) := rg_nlo c_7 i_o_4 (rg_b rfl : Rg (-1) (-1) ((- 1 : Int32)))
      refine s_pu (fun o_6z e_11 => ?_)
      try dsimp only
      have i_o_6z : Rg (0) (63) (o_6z) := by rw [e_11]; exact (rg_and (rg_b rfl : Rg (63) (63) ((63 : Int32))) (by decide) : Rg (0) (63) (x2 &&& (63 : Int32)))
      refine s_ref (hr_e e_o_4 (hr_e e_o_2 e_r_1)) ?_
      refine s_cVq (s_weq (zX3_put hF (pmO_e o_x1 hO_x1 rfl) T_6 r_x1 (rg_m i_o_6z (by decide)) (rg_m (rg_b rfl : Rg (-1) (-1) ((- 1 : Int32))) (by decide)) (rg_m (thI T_6 q_r_1 (k := 2) (i := 4) rfl : Rg (-1) (11) ((hI o_4.2 r_1 4))) (by decide)) (fun z => absurd z (by have := ((rg_b rfl : Rg (-1) (-1) ((- 1 : Int32))) : Rg (-1) (-1) (((- 1 : Int32)))).2; omega)))) (fun o_8 T_12 p_o_8 => ?_)
      have eb_o_8 := p_o_8
      obtain ⟨r_9, e_r_9, q_r_9⟩ := thR T_12 r_x0 (k := 6) (i := 1) (k2 := 11) rfl (by decide)
      refine s_ref e_r_9 ?_
      obtain ⟨r_10, e_r_10, q_r_10⟩ := thR T_12 q_r_9 (k := 11) (i := 5) (k2 := 55) rfl (by decide)
      refine s_ref e_r_10 ?_
      refine s_gd (by rw [thN T_12 q_r_10 (k := 55) (n := 64) rfl (by decide)]; exact rg_inB (i_o_6z : Rg (0) (63) (o_6z)) (by decide)) ?_
      refine s_dJ0 (zX3_occupied hF T_12 r_x1) (fun o_12 eb_o_12 e_o_12 => ?_)
      have T_13 := th_eq e_o_12 T_12
      refine s_q (fun v_13 e_14 => ?_)
      have pf_15 : RyC ρ c h o_12.2 := (by rw [e_o_12]; exact (rc_t (by rw [e_o_4]; exact (by rw [e_o_2]; exact rc_0)) (rc_put T_6 r_x1 q_r_1 (th_id T r_x0 (k := 6) (i := 0) (w := 2102) e_r_1 rfl (by decide)) ((rg_m (rg_b rfl : Rg (-1) (-1) ((- 1 : Int32))) (by decide)) : Rg (-2) (23) ((- 1 : Int32))) eb_o_8)))
      have m_16 : Rg (0) (64) ((0 : Int32)) := (rg_m (rg_b rfl : Rg (0) (0) ((0 : Int32))) (by decide))
      exact zX5_blast_58 hF (pmO_s hO_x1 rfl) F o_x1 T_13 r_x0 r_x1 (rg_m (rg_b rfl : Rg (0) (0) ((0 : Int32))) (by decide)) pf_15 (by have := m_16.1; have := m_16.2; omega)
set_option maxRecDepth 20000 in
theorem zX5_isSafe_54 {ρ : Nat → Nat} {c : Cm} {h0 : Hp} {F : Nat} (hF : 700000 ≤ F) (m3 : c.2.1 3 = true) {h : Hp} {x0 : Nat} {x2 : Int32} {x3 : Int64} (E : h = h0) (T : TH ρ c h) (r_x0 : ρ x0 = 6) (i_x2 : Rg (0) (3) (x2)) : Sat (sX5_isSafe_54 h x0 x2 x3) (ZI0 h0 (0) (1)) := by
  unfold sX5_isSafe_54 sX5_isSafe_72 sX5_isSafe_88
  refine s_br (fun c_1 => ?_) (fun c_1 => ?_)
  · have _ := c_1
    have i_f_2 : Rg (1) (1) (x2) := rg_eq c_1 (rg_b rfl : Rg (1) (1) ((1 : Int32)))
    obtain ⟨r_2, e_r_2, q_r_2⟩ := thM T r_x0 (k := 6) (i := 4) (j := 3) (k2 := 4) rfl (by decide) rfl (by decide) m3
    refine s_ref e_r_2 ?_
    refine s_dI0 (zX3_passSquare hF T q_r_2 (rg_m (rg_b rfl : Rg (0) (0) ((0 : Int32))) (by decide))) (fun o_3 eb_o_3 e_o_3 i_o_3 => ?_)
    have T_3 := th_eq e_o_3 T
    refine s_q (fun v_4 e_4 => ?_)
    refine s_br (fun c_5 => ?_) (fun c_5 => ?_)
    · have _ := c_5
      refine s_gd (rg_bool (rg_m (rg_b rfl : Rg (1) (1) ((1 : Int32))) (by decide))) ?_
      exact s_some ⟨(e_o_3.trans E), (rg_m (rg_b rfl : Rg (1) (1) ((1 : Int32))) (by decide))⟩
    · have _ := c_5
      refine s_gd (rg_bool (rg_m (rg_b rfl : Rg (0) (0) ((0 : Int32))) (by decide))) ?_
      exact s_some ⟨(e_o_3.trans E), (rg_m (rg_b rfl : Rg (0) (0) ((0 : Int32))) (by decide))⟩
  · have _ := c_1
    refine s_br (fun c_6 => ?_) (fun c_6 => ?_)
    · have _ := c_6
      refine s_gd (rg_bool (rg_m (rg_b rfl : Rg (1) (1) ((1 : Int32))) (by decide))) ?_
      exact s_some ⟨E, (rg_m (rg_b rfl : Rg (1) (1) ((1 : Int32))) (by decide))⟩
    · have _ := c_6
      refine s_gd (rg_bool (rg_m (rg_b rfl : Rg (0) (0) ((0 : Int32))) (by decide))) ?_
      exact s_some ⟨E, (rg_m (rg_b rfl : Rg (0) (0) ((0 : Int32))) (by decide))⟩
set_option maxRecDepth 20000 in
theorem zX5_isSafe {ρ : Nat → Nat} {c : Cm} {F : Nat} (hF : 700000 ≤ F) (m3 : c.2.1 3 = true) {h : Hp} {x0 : Nat} {x1 : Int32} (T : TH ρ c h) (r_x0 : ρ x0 = 6) (i_x1 : Rg (-2147483648) (2147483647) (x1)) : Sat (sX5_isSafe h x0 x1) (ZI0 h (0) (1)) := by
  unfold sX5_isSafe sX5_kindOf sX5_isSafe_31 sX5_manOf sX5_comeTo sX5_leftBy
  refine s_pu (fun o_1z e_1 => ?_)
  try dsimp only
  have i_o_1z : Rg (0) (3) (o_1z) := by rw [e_1]; exact (rg_and (rg_b rfl : Rg (3) (3) ((3 : Int32))) (by decide) : Rg (0) (3) ((x1 >>> ((24 : Int32) &&& 31)) &&& (3 : Int32)))
  refine s_br (fun c_2 => ?_) (fun c_2 => ?_)
  · have _ := c_2
    have i_f_3 : Rg (0) (0) ((hI h x0 9)) := rg_eq c_2 (rg_b rfl : Rg (0) (0) (0 : Int32))
    exact s_some ⟨rfl, (rg_m (rg_b rfl : Rg (0) (0) ((0 : Int32))) (by decide))⟩
  · have _ := c_2
    have i_f_4 : Rg (1) (1) ((hI h x0 9)) := rg_nlo c_2 (thI T r_x0 (k := 6) (i := 9) rfl : Rg (0) (1) ((hI h x0 9))) (rg_b rfl : Rg (0) (0) (0 : Int32))
    refine s_br (fun c_5 => ?_) (fun c_5 => ?_)
    · have _ := c_5
      have i_f_6 : Rg (2) (2) (o_1z) := rg_eq c_5 (rg_b rfl : Rg (2) (2) ((2 : Int32)))
      exact s_some ⟨rfl, (rg_m (rg_b rfl : Rg (0) (0) ((0 : Int32))) (by decide))⟩
    · have _ := c_5
      refine s_pu (fun o_4z e_7 => ?_)
      try dsimp only
      have i_o_4z : Rg (0) (15) (o_4z) := by rw [e_7]; exact (rg_and (rg_b rfl : Rg (15) (15) ((15 : Int32))) (by decide) : Rg (0) (15) ((x1 >>> ((12 : Int32) &&& 31)) &&& (15 : Int32)))
      obtain ⟨r_5, e_r_5, q_r_5⟩ := thR T r_x0 (k := 6) (i := 0) (k2 := 2) rfl (by decide)
      refine s_ref e_r_5 ?_
      refine s_br (fun c_8 => ?_) (fun c_8 => ?_)
      · have _ := c_8
        exact s_some ⟨rfl, (rg_m (rg_b rfl : Rg (0) (0) ((0 : Int32))) (by decide))⟩
      · have _ := c_8
        refine s_pu (fun o_7z e_9 => ?_)
        try dsimp only
        have i_o_7z : Rg (0) (63) (o_7z) := by rw [e_9]; exact (rg_and (rg_b rfl : Rg (63) (63) ((63 : Int32))) (by decide) : Rg (0) (63) (x1 &&& (63 : Int32)))
        refine s_q (fun v_8 e_10 => ?_)
        refine s_br (fun c_11 => ?_) (fun c_11 => ?_)
        · have _ := c_11
          have i_f_12 : Rg (3) (3) (o_1z) := rg_eq c_11 (rg_b rfl : Rg (3) (3) ((3 : Int32)))
          exact zX5_isSafe_54 hF m3 rfl T r_x0 (rg_m i_f_12 (by decide))
        · have _ := c_11
          have i_f_13 : Rg (0) (2) (o_1z) := rg_nhi c_11 i_o_1z (rg_b rfl : Rg (3) (3) ((3 : Int32)))
          refine s_pu (fun o_10z e_14 => ?_)
          try dsimp only
          have i_o_10z : Rg (0) (63) (o_10z) := by rw [e_14]; exact (rg_and (rg_b rfl : Rg (63) (63) ((63 : Int32))) (by decide) : Rg (0) (63) ((x1 >>> ((6 : Int32) &&& 31)) &&& (63 : Int32)))
          refine s_q (fun v_11 e_15 => ?_)
          exact zX5_isSafe_54 hF m3 rfl T r_x0 (rg_m i_f_13 (by decide))
set_option maxRecDepth 20000 in
theorem zX5_mayStand_97 {ρ : Nat → Nat} {c : Cm} {h0 : Hp} {F : Nat} (hF : 700000 ≤ F) {h : Hp} {x0 : Nat} {x1 : Int32} {x4 : Int32} (E : h = h0) (T : TH ρ c h) (r_x0 : ρ x0 = 6) (i_x1 : Rg (0) (1) (x1)) (i_x4 : Rg (-1) (63) (x4)) : Sat (sX5_mayStand_97 F h x0 x1 x4) (ZI0 h0 (0) (1)) := by
  unfold sX5_mayStand_97 sX5_mayStand_128 sX5_mayStand_133
  obtain ⟨r_1, e_r_1, q_r_1⟩ := thR T r_x0 (k := 6) (i := 0) (k2 := 2) rfl (by decide)
  refine s_ref e_r_1 ?_
  refine s_dI0 (zX1_has hF T q_r_1 (rg_m (rg_b rfl : Rg (4) (4) ((4 : Int32))) (by decide))) (fun o_2 eb_o_2 e_o_2 i_o_2 => ?_)
  have T_1 := th_eq e_o_2 T
  refine s_br (fun c_2 => ?_) (fun c_2 => ?_)
  · have _ := c_2
    have i_f_3 : Rg (0) (0) (o_2.1) := rg_eq c_2 (rg_b rfl : Rg (0) (0) (0 : Int32))
    refine s_gd (rg_bool (rg_m (rg_b rfl : Rg (1) (1) ((1 : Int32))) (by decide))) ?_
    exact s_some ⟨(e_o_2.trans E), (rg_m (rg_b rfl : Rg (1) (1) ((1 : Int32))) (by decide))⟩
  · have _ := c_2
    have i_f_4 : Rg (1) (1) (o_2.1) := rg_nlo c_2 i_o_2 (rg_b rfl : Rg (0) (0) (0 : Int32))
    refine s_br (fun c_5 => ?_) (fun c_5 => ?_)
    · have _ := c_5
      have i_f_6 : Rg (-1) (-1) (x4) := rg_eq c_5 (rg_b rfl : Rg (-1) (-1) ((- 1 : Int32)))
      refine s_gd (rg_bool (rg_m (rg_b rfl : Rg (1) (1) ((1 : Int32))) (by decide))) ?_
      exact s_some ⟨(e_o_2.trans E), (rg_m (rg_b rfl : Rg (1) (1) ((1 : Int32))) (by decide))⟩
    · have _ := c_5
      have i_f_7 : Rg (0) (63) (x4) := rg_nlo c_5 i_x4 (rg_b rfl : Rg (-1) (-1) ((- 1 : Int32)))
      obtain ⟨r_5, e_r_5, q_r_5⟩ := thR T_1 r_x0 (k := 6) (i := 3) (k2 := 4) rfl (by decide)
      refine s_ref e_r_5 ?_
      refine s_dI0 (zX5_isHit hF T_1 r_x0 q_r_5 i_f_7 i_x1) (fun o_6 eb_o_6 e_o_6 i_o_6 => ?_)
      have T_8 := th_eq e_o_6 T_1
      refine s_br (fun c_9 => ?_) (fun c_9 => ?_)
      · have _ := c_9
        have i_f_10 : Rg (0) (0) (o_6.1) := rg_eq c_9 (rg_b rfl : Rg (0) (0) (0 : Int32))
        refine s_gd (rg_bool (rg_m (rg_b rfl : Rg (1) (1) ((1 : Int32))) (by decide))) ?_
        exact s_some ⟨(e_o_6.trans (e_o_2.trans E)), (rg_m (rg_b rfl : Rg (1) (1) ((1 : Int32))) (by decide))⟩
      · have _ := c_9
        have i_f_11 : Rg (1) (1) (o_6.1) := rg_nlo c_9 i_o_6 (rg_b rfl : Rg (0) (0) (0 : Int32))
        refine s_gd (rg_bool (rg_m (rg_b rfl : Rg (0) (0) ((0 : Int32))) (by decide))) ?_
        exact s_some ⟨(e_o_6.trans (e_o_2.trans E)), (rg_m (rg_b rfl : Rg (0) (0) ((0 : Int32))) (by decide))⟩
set_option maxRecDepth 20000 in
theorem zX5_mayStand_70 {ρ : Nat → Nat} {c : Cm} {h0 : Hp} {F : Nat} (hF : 700000 ≤ F) {h : Hp} {x0 : Nat} {x1 : Int32} {x2 : Int32} {x3 : Int32} {x4 : Int32} {t0 : Int32} (E : h = h0) (T : TH ρ c h) (r_x0 : ρ x0 = 6) (i_x1 : Rg (0) (1) (x1)) (i_x2 : Rg (0) (1) (x2)) (i_x3 : Rg (-1) (63) (x3)) (i_x4 : Rg (-1) (63) (x4)) (i_t0 : Rg (0) (1) (t0)) : Sat (sX5_mayStand_70 F h x0 x1 x2 x3 x4 t0) (ZI0 h0 (0) (1)) := by
  unfold sX5_mayStand_70 sX5_mayStand_95
  refine s_br (fun c_1 => ?_) (fun c_1 => ?_)
  · have _ := c_1
    have i_f_2 : Rg (-1) (-1) (x3) := rg_eq c_1 (rg_b rfl : Rg (-1) (-1) ((- 1 : Int32)))
    exact s_some ⟨E, (rg_m (rg_b rfl : Rg (0) (0) ((0 : Int32))) (by decide))⟩
  · have _ := c_1
    have i_f_3 : Rg (0) (63) (x3) := rg_nlo c_1 i_x3 (rg_b rfl : Rg (-1) (-1) ((- 1 : Int32)))
    refine s_br (fun c_4 => ?_) (fun c_4 => ?_)
    · have _ := c_4
      have i_f_5 : Rg (0) (0) (t0) := rg_eq c_4 (rg_b rfl : Rg (0) (0) (0 : Int32))
      obtain ⟨r_3, e_r_3, q_r_3⟩ := thR T r_x0 (k := 6) (i := 3) (k2 := 4) rfl (by decide)
      refine s_ref e_r_3 ?_
      refine s_dI0 (zX5_isHit hF T r_x0 q_r_3 i_f_3 i_x2) (fun o_4 eb_o_4 e_o_4 i_o_4 => ?_)
      have T_6 := th_eq e_o_4 T
      refine s_br (fun c_7 => ?_) (fun c_7 => ?_)
      · have _ := c_7
        have i_f_8 : Rg (0) (0) (o_4.1) := rg_eq c_7 (rg_b rfl : Rg (0) (0) (0 : Int32))
        exact zX5_mayStand_97 hF (e_o_4.trans E) T_6 r_x0 i_x1 i_x4
      · have _ := c_7
        have i_f_9 : Rg (1) (1) (o_4.1) := rg_nlo c_7 i_o_4 (rg_b rfl : Rg (0) (0) (0 : Int32))
        exact s_some ⟨(e_o_4.trans E), (rg_m (rg_b rfl : Rg (0) (0) ((0 : Int32))) (by decide))⟩
    · have _ := c_4
      have i_f_10 : Rg (1) (1) (t0) := rg_nlo c_4 i_t0 (rg_b rfl : Rg (0) (0) (0 : Int32))
      exact zX5_mayStand_97 hF E T r_x0 i_x1 i_x4
set_option maxRecDepth 20000 in
theorem zX5_mayStand {ρ : Nat → Nat} {c : Cm} {F : Nat} (hF : 700000 ≤ F) (m3 : c.2.1 3 = true) {h : Hp} {x0 : Nat} (T : TH ρ c h) (r_x0 : ρ x0 = 6) : Sat (sX5_mayStand F h x0) (ZI0 h (0) (1)) := by
  unfold sX5_mayStand sX5_mayStand_69
  obtain ⟨r_1, e_r_1, q_r_1⟩ := thM T r_x0 (k := 6) (i := 4) (j := 3) (k2 := 4) rfl (by decide) rfl (by decide) m3
  refine s_ref e_r_1 ?_
  refine s_q (fun v_2 e_1 => ?_)
  have i_v_2 : Rg (0) (1) (v_2) := by rw [e_1]; exact (thI T q_r_1 (k := 4) (i := 5) rfl : Rg (0) (1) (hI h r_1 5))
  refine s_q (fun v_3 e_2 => ?_)
  have i_v_3 : Rg (0) (1) (v_3) := by rw [e_2]; exact (rg_sub (rg_b rfl : Rg (1) (1) ((1 : Int32))) i_v_2 (by decide) : Rg (0) (1) ((1 : Int32) - v_2))
  obtain ⟨r_4, e_r_4, q_r_4⟩ := thR T r_x0 (k := 6) (i := 3) (k2 := 4) rfl (by decide)
  refine s_ref e_r_4 ?_
  obtain ⟨r_5, e_r_5, q_r_5⟩ := thR T q_r_4 (k := 4) (i := 2) (k2 := 36) rfl (by decide)
  refine s_ref e_r_5 ?_
  refine s_gd (by rw [thN T q_r_5 (k := 36) (n := 2) rfl (by decide)]; exact rg_inB (i_v_2 : Rg (0) (1) (v_2)) (by decide)) ?_
  refine s_q (fun v_7 e_3 => ?_)
  have i_v_7 : Rg (-1) (63) (v_7) := by rw [e_3]; exact (thI T q_r_5 (k := 36) rfl : Rg (-1) (63) (hI h r_5 v_2.toNatClampNeg))
  refine s_ref e_r_4 ?_
  refine s_ref e_r_5 ?_
  refine s_gd (by rw [thN T q_r_5 (k := 36) (n := 2) rfl (by decide)]; exact rg_inB (i_v_3 : Rg (0) (1) (v_3)) (by decide)) ?_
  refine s_q (fun v_11 e_4 => ?_)
  have i_v_11 : Rg (-1) (63) (v_11) := by rw [e_4]; exact (thI T q_r_5 (k := 36) rfl : Rg (-1) (63) (hI h r_5 v_3.toNatClampNeg))
  refine s_ref e_r_1 ?_
  obtain ⟨r_13, e_r_13, q_r_13⟩ := thR T q_r_1 (k := 4) (i := 2) (k2 := 36) rfl (by decide)
  refine s_ref e_r_13 ?_
  refine s_gd (by rw [thN T q_r_13 (k := 36) (n := 2) rfl (by decide)]; exact rg_inB (i_v_2 : Rg (0) (1) (v_2)) (by decide)) ?_
  refine s_br (fun c_5 => ?_) (fun c_5 => ?_)
  · have _ := c_5
    have i_f_6 : Rg (-1) (-1) ((hI h r_13 v_2.toNatClampNeg)) := rg_eq c_5 (rg_b rfl : Rg (-1) (-1) ((- 1 : Int32)))
    exact zX5_mayStand_97 hF rfl T r_x0 i_v_2 i_v_11
  · have _ := c_5
    have i_f_7 : Rg (0) (63) ((hI h r_13 v_2.toNatClampNeg)) := rg_nlo c_5 (thI T q_r_13 (k := 36) rfl : Rg (-1) (63) ((hI h r_13 v_2.toNatClampNeg))) (rg_b rfl : Rg (-1) (-1) ((- 1 : Int32)))
    refine s_ref e_r_1 ?_
    refine s_ref e_r_13 ?_
    refine s_gd (by rw [thN T q_r_13 (k := 36) (n := 2) rfl (by decide)]; exact rg_inB (i_v_3 : Rg (0) (1) (v_3)) (by decide)) ?_
    refine s_br (fun c_8 => ?_) (fun c_8 => ?_)
    · have _ := c_8
      have i_f_9 : Rg (-1) (-1) ((hI h r_13 v_3.toNatClampNeg)) := rg_eq c_8 (rg_b rfl : Rg (-1) (-1) ((- 1 : Int32)))
      exact zX5_mayStand_70 hF rfl T r_x0 i_v_2 i_v_3 i_v_7 i_v_11 (rg_m (rg_b rfl : Rg (0) (0) ((0 : Int32))) (by decide))
    · have _ := c_8
      have i_f_10 : Rg (0) (63) ((hI h r_13 v_3.toNatClampNeg)) := rg_nlo c_8 (thI T q_r_13 (k := 36) rfl : Rg (-1) (63) ((hI h r_13 v_3.toNatClampNeg))) (rg_b rfl : Rg (-1) (-1) ((- 1 : Int32)))
      refine s_br (fun c_11 => ?_) (fun c_11 => ?_)
      · have _ := c_11
        have i_f_12 : Rg (-1) (-1) (v_11) := rg_eq c_11 (rg_b rfl : Rg (-1) (-1) ((- 1 : Int32)))
        exact zX5_mayStand_70 hF rfl T r_x0 i_v_2 i_v_3 i_v_7 (rg_m i_f_12 (by decide)) (rg_m (rg_b rfl : Rg (1) (1) ((1 : Int32))) (by decide))
      · have _ := c_11
        have i_f_13 : Rg (0) (63) (v_11) := rg_nlo c_11 i_v_11 (rg_b rfl : Rg (-1) (-1) ((- 1 : Int32)))
        exact zX5_mayStand_70 hF rfl T r_x0 i_v_2 i_v_3 i_v_7 (rg_m i_f_13 (by decide)) (rg_m (rg_b rfl : Rg (0) (0) ((0 : Int32))) (by decide))
theorem zX5_becomes {ρ : Nat → Nat} {c : Cm} {F : Nat} (hF : 700000 ≤ F) {h : Hp} {x0 : Int32} (T : TH ρ c h) (i_x0 : Rg (-2147483648) (2147483647) (x0)) (gx : GMq (c.2.1 50) x0) : Sat (sX5_becomes h x0) (ZI0 h (-1) (11)) := by
  unfold sX5_becomes sX5_becomes_19
  refine s_q (fun v e => ?_)
  refine s_br (fun c1 => s_some ⟨rfl, rg_b rfl⟩) (fun c1 => ?_)
  rcases gx.1.2.1 with w | w
  · exact s_some ⟨rfl, by rw [e]; exact rg_m w (by decide)⟩
  · exact absurd (e.trans w) c1

set_option maxRecDepth 20000 in
theorem zX5_shift_145 {ρ : Nat → Nat} {c : Cm} {F : Nat} {w_x1 : Nat} {g0 : Hp} (hF : 700000 ≤ F) (hO_x1 : pmO c w_x1 [(34, 999), (35, 999), (36, 999), (4, 7)]) {h : Hp} {x0 : Nat} {x1 : Nat} {x2 : Int32} {x3 : Int32} {x4 : Int32} {x6 : Int32} (o_x1 : cw c x1 = w_x1) (T : TH ρ c h) (r_x0 : ρ x0 = 6) (r_x1 : ρ x1 = 4) (i_x2 : Rg (-2147483648) (2147483647) (x2)) (i_x3 : Rg (0) (63) (x3)) (i_x4 : Rg (0) (63) (x4)) (i_x6 : Rg (0) (23) (x6)) (gx : (GMq (c.2.1 50) x2)) (s3 : ( SqB (c.2.1 50) x3)) (s4 : ( SqB (c.2.1 50) x4)) (ry : (RyC ρ c g0 h)) : Sat (sX5_shift_145 F h x0 x1 x2 x3 x4 x6) (ZQ (ZV ρ c) (fun o => RyC ρ c g0 o)) := by
  unfold sX5_shift_145 sX5_shift_185
  obtain ⟨r_1, e_r_1, q_r_1⟩ := thR T r_x0 (k := 6) (i := 0) (k2 := 2) rfl (by decide)
  refine s_ref e_r_1 ?_
  refine s_cVfq (S := fS [] [(w_x1, [(34, 999), (35, 999), (36, 999), (4, 7)])]) T (fs_sub pmA_n (fs_c (pmO_s hO_x1 rfl) fs_n)) (s_weq (zX3_put hF (pmO_e o_x1 (fs_o (.head _)) rfl) (th_in _ T) r_x1 (rg_m i_x3 (by decide)) (rg_m (rg_b rfl : Rg (-1) (-1) ((- 1 : Int32))) (by decide)) (rg_m (thI T q_r_1 (k := 2) (i := 4) rfl : Rg (-1) (11) ((hI h r_1 4))) (by decide)) (fun z => absurd z (by have := ((rg_b rfl : Rg (-1) (-1) ((- 1 : Int32))) : Rg (-1) (-1) (((- 1 : Int32)))).2; omega)))) (fun o_2 T_1 f_o_2 p_o_2 => ?_)
  have eb_o_2 := p_o_2
  refine s_dI0 (zX5_becomes hF T_1 i_x2 gx) (fun o_3 eb_o_3 e_o_3 i_o_3 => ?_)
  have T_2 := th_eq e_o_3 T_1
  refine s_br (fun c_3 => ?_) (fun c_3 => ?_)
  · have _ := c_3
    have i_f_4 : Rg (-1) (-1) (o_3.1) := rg_eq c_3 (rg_b rfl : Rg (-1) (-1) ((- 1 : Int32)))
    refine s_ref (hr_e e_o_3 (hr_q (fr_R f_o_2 r_x0 (by decide) rfl rfl) e_r_1)) ?_
    refine s_cVq (s_weq (zX3_put hF (pmO_e o_x1 hO_x1 rfl) T_2 r_x1 (rg_m i_x4 (by decide)) (rg_m i_x6 (by decide)) (rg_m (thI T_2 q_r_1 (k := 2) (i := 4) rfl : Rg (-1) (11) ((hI o_3.2 r_1 4))) (by decide)) (fun _ => s4))) (fun o_2q1 T_5 p_o_2q1 => ?_)
    have eb_o_2q1 := p_o_2q1
    have pf_6 : RyC ρ c g0 o_2q1 := (rc_t (by rw [e_o_3]; exact (rc_t ry (rc_put T r_x1 q_r_1 (th_id T r_x0 (k := 6) (i := 0) (w := 2102) e_r_1 rfl (by decide)) ((rg_m (rg_b rfl : Rg (-1) (-1) ((- 1 : Int32))) (by decide)) : Rg (-2) (23) ((- 1 : Int32))) eb_o_2))) (rc_put T_2 r_x1 q_r_1 (th_id T r_x0 (k := 6) (i := 0) (w := 2102) e_r_1 rfl (by decide)) ((rg_m i_x6 (by decide)) : Rg (-2) (23) (x6)) eb_o_2q1))
    exact s_some ⟨(T_5), pf_6⟩
  · have _ := c_3
    have i_f_7 : Rg (0) (11) (o_3.1) := rg_nlo c_3 i_o_3 (rg_b rfl : Rg (-1) (-1) ((- 1 : Int32)))
    refine s_val (show sX5_becomes o_3.2 x2 = some o_3 from by rw [e_o_3]; exact eb_o_3) ?_
    refine s_ref (hr_e e_o_3 (hr_q (fr_R f_o_2 r_x0 (by decide) rfl rfl) e_r_1)) ?_
    refine s_cVq (s_weq (zX3_put hF (pmO_e o_x1 hO_x1 rfl) T_2 r_x1 (rg_m i_x4 (by decide)) (rg_m (rg_add (rg_mulc' (rg_b rfl : Rg (2) (2) ((2 : Int32))) i_f_7 (by decide) : Rg (0) (22) (((2 : Int32) * o_3.1))) (thI T_2 r_x1 (k := 4) (i := 5) rfl : Rg (0) (1) ((hI o_3.2 x1 5))) (by decide) : Rg (0) (23) ((((2 : Int32) * o_3.1) + (hI o_3.2 x1 5)))) (by decide)) (rg_m (thI T_2 q_r_1 (k := 2) (i := 4) rfl : Rg (-1) (11) ((hI o_3.2 r_1 4))) (by decide)) (fun _ => s4))) (fun o_2q2 T_8 p_o_2q2 => ?_)
    have eb_o_2q2 := p_o_2q2
    have pf_9 : RyC ρ c g0 o_2q2 := (rc_t (by rw [e_o_3]; exact (rc_t ry (rc_put T r_x1 q_r_1 (th_id T r_x0 (k := 6) (i := 0) (w := 2102) e_r_1 rfl (by decide)) ((rg_m (rg_b rfl : Rg (-1) (-1) ((- 1 : Int32))) (by decide)) : Rg (-2) (23) ((- 1 : Int32))) eb_o_2))) (rc_put T_2 r_x1 q_r_1 (th_id T r_x0 (k := 6) (i := 0) (w := 2102) e_r_1 rfl (by decide)) ((rg_m (rg_add (rg_mulc' (rg_b rfl : Rg (2) (2) ((2 : Int32))) i_f_7 (by decide) : Rg (0) (22) (((2 : Int32) * o_3.1))) (thI T_2 r_x1 (k := 4) (i := 5) rfl : Rg (0) (1) ((hI o_3.2 x1 5))) (by decide) : Rg (0) (23) ((((2 : Int32) * o_3.1) + (hI o_3.2 x1 5)))) (by decide)) : Rg (-2) (23) ((((2 : Int32) * o_3.1) + (hI o_3.2 x1 5)))) eb_o_2q2))
    exact s_some ⟨(T_8), pf_9⟩
set_option maxRecDepth 20000 in
theorem zX5_shift_122 {ρ : Nat → Nat} {c : Cm} {F : Nat} {w_x1 : Nat} {g0 : Hp} (hF : 700000 ≤ F) (hO_x1 : pmO c w_x1 [(34, 999), (35, 999), (36, 999), (4, 7)]) {h : Hp} {x0 : Nat} {x1 : Nat} {x2 : Int32} {x3 : Int32} {x4 : Int32} {x5 : Int32} {x6 : Int32} (o_x1 : cw c x1 = w_x1) (T : TH ρ c h) (r_x0 : ρ x0 = 6) (r_x1 : ρ x1 = 4) (i_x2 : Rg (-2147483648) (2147483647) (x2)) (i_x3 : Rg (0) (63) (x3)) (i_x4 : Rg (0) (63) (x4)) (i_x5 : Rg (0) (2) (x5)) (i_x6 : Rg (0) (23) (x6)) (gx : (GMq (c.2.1 50) x2)) (s3 : ( SqB (c.2.1 50) x3)) (s4 : ( SqB (c.2.1 50) x4)) (ry : (RyC ρ c g0 h)) : Sat (sX5_shift_122 F h x0 x1 x2 x3 x4 x5 x6) (ZQ (ZV ρ c) (fun o => RyC ρ c g0 o)) := by
  unfold sX5_shift_122 
  refine s_br (fun c_1 => ?_) (fun c_1 => ?_)
  · have _ := c_1
    have i_f_2 : Rg (1) (1) (x5) := rg_eq c_1 (rg_b rfl : Rg (1) (1) ((1 : Int32)))
    refine s_dI0 (zX3_passSquare hF T r_x1 (rg_m (rg_b rfl : Rg (0) (0) ((0 : Int32))) (by decide))) (fun o_2 eb_o_2 e_o_2 i_o_2 => ?_)
    have T_3 := th_eq e_o_2 T
    obtain ⟨r_3, e_r_3, q_r_3⟩ := thR T_3 r_x0 (k := 6) (i := 0) (k2 := 2) rfl (by decide)
    refine s_ref e_r_3 ?_
    refine s_cVq (s_weq (zX3_put hF (pmO_e o_x1 hO_x1 rfl) T_3 r_x1 (rg_m i_o_2 (by decide)) (rg_m (rg_b rfl : Rg (-1) (-1) ((- 1 : Int32))) (by decide)) (rg_m (thI T_3 q_r_3 (k := 2) (i := 4) rfl : Rg (-1) (11) ((hI o_2.2 r_3 4))) (by decide)) (fun z => absurd z (by have := ((rg_b rfl : Rg (-1) (-1) ((- 1 : Int32))) : Rg (-1) (-1) (((- 1 : Int32)))).2; omega)))) (fun o_4 T_4 p_o_4 => ?_)
    have eb_o_4 := p_o_4
    have pf_5 : RyC ρ c g0 o_4 := (rc_t (by rw [e_o_2]; exact ry) (rc_put T_3 r_x1 q_r_3 (th_id T_3 r_x0 (k := 6) (i := 0) (w := 2102) e_r_3 rfl (by decide)) ((rg_m (rg_b rfl : Rg (-1) (-1) ((- 1 : Int32))) (by decide)) : Rg (-2) (23) ((- 1 : Int32))) eb_o_4))
    exact zX5_shift_145 hF (pmO_s hO_x1 rfl) o_x1 T_4 r_x0 r_x1 i_x2 i_x3 i_x4 i_x6 gx s3 s4 pf_5
  · have _ := c_1
    exact zX5_shift_145 hF (pmO_s hO_x1 rfl) o_x1 T r_x0 r_x1 i_x2 i_x3 i_x4 i_x6 gx s3 s4 ry
set_option maxRecDepth 20000 in
theorem zX5_shift_72 {ρ : Nat → Nat} {c : Cm} {F : Nat} {w_x1 w_t2 : Nat} {g0 : Hp} (hF : 700000 ≤ F) (hO_x1 : pmO c w_x1 [(34, 999), (35, 999), (36, 999), (4, 7)]) {h : Hp} {x0 : Nat} {x1 : Nat} {x2 : Int32} {x3 : Int32} {x4 : Int32} {x5 : Int32} {x6 : Int32} {t0 : Int32} {t1 : Int32} {t2 : Nat} {t3 : Nat} (o_x1 : cw c x1 = w_x1) (o_t2 : cw c t2 = w_t2) (T : TH ρ c h) (r_x0 : ρ x0 = 6) (r_x1 : ρ x1 = 4) (i_x2 : Rg (-2147483648) (2147483647) (x2)) (i_x3 : Rg (0) (63) (x3)) (i_x4 : Rg (0) (63) (x4)) (i_x5 : Rg (2) (2) (x5)) (i_x6 : Rg (0) (23) (x6)) (i_t0 : Rg (-1) (1) (t0)) (i_t1 : Rg (0) (63) (t1)) (r_t2 : ρ t2 = 4) (r_t3 : ρ t3 = 6) (gx : (GMq (c.2.1 50) x2)) (s3 : ( SqB (c.2.1 50) x3)) (s4 : ( SqB (c.2.1 50) x4)) (st1 : ( SqB (c.2.1 50) t1)) (d0 : (t0.toInt = 1 ∨ t0.toInt = -1)) (ry : (RyC ρ c g0 h)) : Sat (sX5_shift_72 F h x0 x1 x2 x3 x4 x5 x6 t0 t1 t2 t3) (ZQ (ZV ρ c) (fun o => RyC ρ c g0 o)) := by
  unfold sX5_shift_72 
  refine s_dI0q (zX5_nearest hF T r_t3 r_t2 i_t1 i_t0 st1 (show (t0).toInt = 1 ∨ (t0).toInt = -1 from (by have := (i_t1 : Rg (0) (63) (t1)).1; have := (i_t1 : Rg (0) (63) (t1)).2; have := (i_t0 : Rg (-1) (1) (t0)).1; have := (i_t0 : Rg (-1) (1) (t0)).2; have := (i_x2 : Rg (-2147483648) (2147483647) (x2)).1; have := (i_x2 : Rg (-2147483648) (2147483647) (x2)).2; have := (i_x3 : Rg (0) (63) (x3)).1; have := (i_x3 : Rg (0) (63) (x3)).2; have := (i_x4 : Rg (0) (63) (x4)).1; have := (i_x4 : Rg (0) (63) (x4)).2; clear o_x1 o_t2; omega))) (fun o_1 eb_o_1 e_o_1 i_o_1 pp_o_1 => ?_)
  have pq_o_1_0 : o_1.1.toInt = -1 ∨ (((t0).toInt) = 1 ∧ ((t1).toInt) < o_1.1.toInt) ∨ (((t0).toInt) = -1 ∧ o_1.1.toInt < ((t1).toInt)) := pp_o_1
  have T_1 := th_eq e_o_1 T
  obtain ⟨r_2, e_r_2, q_r_2⟩ := thR T_1 r_x0 (k := 6) (i := 0) (k2 := 2) rfl (by decide)
  refine s_ref e_r_2 ?_
  refine s_cVfq (S := fS [] [(w_x1, [(34, 999), (35, 999), (36, 999), (4, 7)])]) T_1 (fs_sub pmA_n (fs_c (pmO_s hO_x1 rfl) fs_n)) (s_weq (zX3_put hF (pmO_e o_x1 (fs_o (.head _)) rfl) (th_in _ T_1) r_x1 (rg_m i_o_1 (by decide)) (rg_m (rg_b rfl : Rg (-1) (-1) ((- 1 : Int32))) (by decide)) (rg_m (thI T_1 q_r_2 (k := 2) (i := 4) rfl : Rg (-1) (11) ((hI o_1.2 r_2 4))) (by decide)) (fun z => absurd z (by have := ((rg_b rfl : Rg (-1) (-1) ((- 1 : Int32))) : Rg (-1) (-1) (((- 1 : Int32)))).2; omega)))) (fun o_3 T_2 f_o_3 p_o_3 => ?_)
  have eb_o_3 := p_o_3
  refine s_ref (hr_q (fr_R f_o_3 r_x0 (by decide) rfl rfl) e_r_2) ?_
  refine s_ref (hr_q (fr_R f_o_3 r_x0 (by decide) rfl rfl) e_r_2) ?_
  refine s_cVq (s_weq (zX3_put hF (pmO_e o_x1 hO_x1 rfl) T_2 r_x1 (rg_m (rg_shrk 1 (by decide) (rg_add i_x3 i_x4 (by decide) : Rg (0) (126) ((x3 + x4))) (by decide) : Rg (0) (63) (((x3 + x4) >>> ((1 : Int32) &&& 31)))) (by decide)) (rg_add (rg_mulc' (rg_b rfl : Rg (2) (2) ((2 : Int32))) (thI T_2 q_r_2 (k := 2) (i := 6) rfl : Rg (-1) (11) ((hI o_3 r_2 6))) (by decide) : Rg (-2) (22) (((2 : Int32) * (hI o_3 r_2 6)))) (thI T_2 r_x1 (k := 4) (i := 5) rfl : Rg (0) (1) ((hI o_3 x1 5))) (by decide) : Rg (-2) (23) ((((2 : Int32) * (hI o_3 r_2 6)) + (hI o_3 x1 5)))) (rg_m (thI T_2 q_r_2 (k := 2) (i := 4) rfl : Rg (-1) (11) ((hI o_3 r_2 4))) (by decide)) (fun _ => (sq_mid (i_x3 : Rg (0) (63) (x3)) (i_x4 : Rg (0) (63) (x4)) s3 s4)))) (fun o_6 T_3 p_o_6 => ?_)
  have eb_o_6 := p_o_6
  have pf_4 : RyC ρ c g0 o_6 := (rc_t (rc_t (by rw [e_o_1]; exact ry) (rc_put T_1 r_x1 q_r_2 (th_id T_1 r_x0 (k := 6) (i := 0) (w := 2102) e_r_2 rfl (by decide)) ((rg_m (rg_b rfl : Rg (-1) (-1) ((- 1 : Int32))) (by decide)) : Rg (-2) (23) ((- 1 : Int32))) eb_o_3)) (rc_put T_2 r_x1 q_r_2 (th_id T_1 r_x0 (k := 6) (i := 0) (w := 2102) e_r_2 rfl (by decide)) ((rg_add (rg_mulc' (rg_b rfl : Rg (2) (2) ((2 : Int32))) (thI T_2 q_r_2 (k := 2) (i := 6) rfl : Rg (-1) (11) ((hI o_3 r_2 6))) (by decide) : Rg (-2) (22) (((2 : Int32) * (hI o_3 r_2 6)))) (thI T_2 r_x1 (k := 4) (i := 5) rfl : Rg (0) (1) ((hI o_3 x1 5))) (by decide) : Rg (-2) (23) ((((2 : Int32) * (hI o_3 r_2 6)) + (hI o_3 x1 5)))) : Rg (-2) (23) ((((2 : Int32) * (hI o_3 r_2 6)) + (hI o_3 x1 5)))) eb_o_6))
  exact zX5_shift_122 hF (pmO_s hO_x1 rfl) o_x1 T_3 r_x0 r_x1 i_x2 i_x3 i_x4 (rg_m i_x5 (by decide)) i_x6 gx s3 s4 pf_4
set_option maxRecDepth 20000 in
theorem zX5_shift {ρ : Nat → Nat} {c : Cm} {F : Nat} {w_x1 : Nat} (hF : 700000 ≤ F) (hO_x1 : pmO c w_x1 [(34, 999), (35, 999), (36, 999), (4, 7)]) {h : Hp} {x0 : Nat} {x1 : Nat} {x2 : Int32} (o_x1 : cw c x1 = w_x1) (T : TH ρ c h) (r_x0 : ρ x0 = 6) (r_x1 : ρ x1 = 4) (i_x2 : Rg (-2147483648) (2147483647) (x2)) (gx : GMq (c.2.1 50) x2) : Sat (sX5_shift F h x0 x1 x2) (ZQ (ZV ρ c) (fun o => RyC ρ c h o)) := by
  unfold sX5_shift sX5_leftBy sX5_comeTo sX5_kindOf sX5_manOf
  refine s_pu (fun o_1z e_1 => ?_)
  try dsimp only
  have i_o_1z : Rg (0) (63) (o_1z) := by rw [e_1]; exact (rg_and (rg_b rfl : Rg (63) (63) ((63 : Int32))) (by decide) : Rg (0) (63) ((x2 >>> ((6 : Int32) &&& 31)) &&& (63 : Int32)))
  refine s_pu (fun o_2z e_2 => ?_)
  try dsimp only
  have i_o_2z : Rg (0) (63) (o_2z) := by rw [e_2]; exact (rg_and (rg_b rfl : Rg (63) (63) ((63 : Int32))) (by decide) : Rg (0) (63) (x2 &&& (63 : Int32)))
  refine s_pu (fun o_3z e_3 => ?_)
  try dsimp only
  have i_o_3z : Rg (0) (3) (o_3z) := by rw [e_3]; exact (rg_and (rg_b rfl : Rg (3) (3) ((3 : Int32))) (by decide) : Rg (0) (3) ((x2 >>> ((24 : Int32) &&& 31)) &&& (3 : Int32)))
  refine s_pu (fun o_4z e_4 => ?_)
  try dsimp only
  have i_o_4z : Rg (0) (11) (o_4z) := by rw [e_4]; exact (gq_man gx : Rg (0) (11) ((x2 >>> ((12 : Int32) &&& 31)) &&& (15 : Int32)))
  refine s_q (fun v_5 e_5 => ?_)
  have i_v_5 : Rg (0) (23) (v_5) := by rw [e_5]; exact (rg_add (rg_mulc' (rg_b rfl : Rg (2) (2) ((2 : Int32))) i_o_4z (by decide) : Rg (0) (22) (((2 : Int32) * o_4z))) (thI T r_x1 (k := 4) (i := 5) rfl : Rg (0) (1) ((hI h x1 5))) (by decide) : Rg (0) (23) (((2 : Int32) * o_4z) + (hI h x1 5)))
  refine s_br (fun c_6 => ?_) (fun c_6 => ?_)
  · have _ := c_6
    have i_f_7 : Rg (3) (3) (o_3z) := rg_eq c_6 (rg_b rfl : Rg (3) (3) ((3 : Int32)))
    obtain ⟨r_9, e_r_9, q_r_9⟩ := thR T r_x0 (k := 6) (i := 0) (k2 := 2) rfl (by decide)
    refine s_ref e_r_9 ?_
    refine s_cVq (s_weq (zX3_put hF (pmO_e o_x1 hO_x1 rfl) T r_x1 (rg_m i_o_2z (by decide)) (rg_m i_v_5 (by decide)) (rg_m (thI T q_r_9 (k := 2) (i := 4) rfl : Rg (-1) (11) ((hI h r_9 4))) (by decide)) (fun _ => (by rw [e_2]; exact (gx).2.1)))) (fun o_10 T_8 p_o_10 => ?_)
    have eb_o_10 := p_o_10
    have pf_9 : RyC ρ c h o_10 := (rc_t rc_0 (rc_put T r_x1 q_r_9 (th_id T r_x0 (k := 6) (i := 0) (w := 2102) e_r_9 rfl (by decide)) ((rg_m i_v_5 (by decide)) : Rg (-2) (23) (v_5)) eb_o_10))
    exact s_some ⟨(T_8), pf_9⟩
  · have _ := c_6
    have i_f_10 : Rg (0) (2) (o_3z) := rg_nhi c_6 i_o_3z (rg_b rfl : Rg (3) (3) ((3 : Int32)))
    refine s_br (fun c_11 => ?_) (fun c_11 => ?_)
    · have _ := c_11
      have i_f_12 : Rg (2) (2) (o_3z) := rg_eq c_11 (rg_b rfl : Rg (2) (2) ((2 : Int32)))
      refine s_br (fun c_13 => ?_) (fun c_13 => ?_)
      · have _ := c_13
        exact zX5_shift_72 hF (pmO_s hO_x1 rfl) o_x1 o_x1 T r_x0 r_x1 i_x2 i_o_1z i_o_2z i_f_12 i_v_5 (rg_m (rg_b rfl : Rg (-1) (-1) ((- 1 : Int32))) (by decide)) i_o_1z r_x1 r_x0 gx (by rw [e_1]; exact (gx).2.2) (by rw [e_2]; exact (gx).2.1) (by rw [e_1]; exact (gx).2.2) (show ((- 1 : Int32)).toInt = 1 ∨ ((- 1 : Int32)).toInt = -1 from (by have : ((- 1 : Int32)).toInt = -1 := rfl; clear o_x1; omega)) rc_0
      · have _ := c_13
        have i_f_14 : Rg (0) (62) (o_1z) := rg_lt1 (nle_lt c_13) i_o_1z i_o_2z
        have i_f_15 : Rg (1) (63) (o_2z) := rg_lt2 (nle_lt c_13) i_o_1z i_o_2z
        exact zX5_shift_72 hF (pmO_s hO_x1 rfl) o_x1 o_x1 T r_x0 r_x1 i_x2 (rg_m i_f_14 (by decide)) (rg_m i_f_15 (by decide)) i_f_12 i_v_5 (rg_m (rg_b rfl : Rg (1) (1) ((1 : Int32))) (by decide)) (rg_m i_f_14 (by decide)) r_x1 r_x0 gx (by rw [e_1]; exact (gx).2.2) (by rw [e_2]; exact (gx).2.1) (by rw [e_1]; exact (gx).2.2) (show ((1 : Int32)).toInt = 1 ∨ ((1 : Int32)).toInt = -1 from (by have : ((1 : Int32)).toInt = 1 := rfl; clear o_x1; omega)) rc_0
    · have _ := c_11
      have i_f_16 : Rg (0) (1) (o_3z) := rg_nhi c_11 i_f_10 (rg_b rfl : Rg (2) (2) ((2 : Int32)))
      exact zX5_shift_122 hF (pmO_s hO_x1 rfl) o_x1 T r_x0 r_x1 i_x2 i_o_1z i_o_2z (rg_m i_f_16 (by decide)) i_v_5 gx (by rw [e_1]; exact (gx).2.2) (by rw [e_2]; exact (gx).2.1) rc_0
set_option maxRecDepth 20000 in
theorem zX5_keepLawful_70 {ρ : Nat → Nat} {c : Cm} {F : Nat} (hF : 700000 ≤ F) (m4 : c.2.1 4 = true) {k_4 : Hp → Nat → Int32 → Int32 → Option (Hp)} {C_4 : Int} (hk_4 : ∀ {h : Hp} {x0 : Nat} {x2 : Int32} {x3 : Int32}, TH ρ c h → ρ x0 = 6 → Rg (0) (4096) (x2) → Rg (0) (4096) (x3) → x2.toInt ≤ x3.toInt + 0 → C_4 < x3.toInt → Sat (k_4 h x0 x2 x3) (ZV ρ c)) (hA : pmA c [(47, 999), (6, 7)]) {h : Hp} {x0 : Nat} {x2 : Int32} {x3 : Int32} {x4 : Int32} {x5 : Int32} (T : TH ρ c h) (r_x0 : ρ x0 = 6) (i_x2 : Rg (0) (4095) (x2)) (i_x3 : Rg (0) (4095) (x3)) (i_x4 : Rg (-2147483648) (2147483647) (x4)) (i_x5 : Rg (0) (1) (x5)) (hc_4 : C_4 ≤ x3.toInt) (le_x2_x3 : x2.toInt ≤ x3.toInt + 0) (g4 : (GMq (c.2.1 50) x4)) : Sat (sX5_keepLawful_70 F k_4 h x0 x2 x3 x4 x5) (ZV ρ c) := by
  unfold sX5_keepLawful_70 sX5_keepLawful_111 sX5_keepLawful_108 sX5_keepLawful_103
  refine s_br (fun c_1 => ?_) (fun c_1 => ?_)
  · have _ := c_1
    have i_f_2 : Rg (0) (0) (x5) := rg_eq c_1 (rg_b rfl : Rg (0) (0) (0 : Int32))
    refine s_q (fun v_1q1 e_3 => ?_)
    have i_v_1q1 : Rg (1) (4096) (v_1q1) := by rw [e_3]; exact (rg_add i_x3 (rg_b rfl : Rg (1) (1) ((1 : Int32))) (by decide) : Rg (1) (4096) (x3 + (1 : Int32)))
    have m_4 : (v_1q1).toInt = x3.toInt + 1 := by rw [e_3]; exact rg_inc i_x3 (by decide)
    have m_5 : (v_1q1).toInt = x3.toInt + 1 := by rw [e_3]; exact rg_inc i_x3 (by decide)
    exact hk_4 T r_x0 (rg_m i_x2 (by decide)) (rg_m i_v_1q1 (by decide)) (by omega) (by have := hc_4; omega)
  · have _ := c_1
    have i_f_6 : Rg (1) (1) (x5) := rg_nlo c_1 i_x5 (rg_b rfl : Rg (0) (0) (0 : Int32))
    obtain ⟨r_2, e_r_2, q_r_2⟩ := thM T r_x0 (k := 6) (i := 5) (j := 4) (k2 := 47) rfl (by decide) rfl (by decide) m4
    refine s_ref e_r_2 ?_
    refine s_gd (by rw [thN T q_r_2 (k := 47) (n := 4096) rfl (by decide)]; exact rg_inB (i_x2 : Rg (0) (4095) (x2)) (by decide)) ?_
    refine s_hq (th_wI T q_r_2 (k := 47) (lo := (-2147483648)) (hi := (2147483647)) rfl (i_x4 : Rg (-2147483648) (2147483647) (x4)) (by decide) (by decide) (pm_a hA rfl) (rpG g4)) (fun h_4 T_7 w_8 => ?_)
    refine s_q (fun v_5 e_9 => ?_)
    have i_v_5 : Rg (1) (4096) (v_5) := by rw [e_9]; exact (rg_add i_x2 (rg_b rfl : Rg (1) (1) ((1 : Int32))) (by decide) : Rg (1) (4096) (x2 + (1 : Int32)))
    refine s_br (fun c_10 => ?_) (fun c_10 => ?_)
    · have _ := c_10
      have i_f_11 : Rg (0) (0) ((hI h_4 x0 7)) := rg_eq c_10 (rg_b rfl : Rg (0) (0) (0 : Int32))
      refine s_dI0 (zX5_takenBy hF T_7 i_x4 g4) (fun o_7 eb_o_7 e_o_7 i_o_7 => ?_)
      have T_12 := th_eq e_o_7 T_7
      refine s_br (fun c_13 => ?_) (fun c_13 => ?_)
      · have _ := c_13
        have i_f_14 : Rg (-1) (-1) (o_7.1) := rg_eq c_13 (rg_b rfl : Rg (-1) (-1) ((- 1 : Int32)))
        refine s_gd (rg_bool (rg_m (rg_b rfl : Rg (0) (0) ((0 : Int32))) (by decide))) ?_
        refine s_hq (th_wI T_12 r_x0 (k := 6) (lo := (0)) (hi := (1)) rfl ((rg_m (rg_b rfl : Rg (0) (0) ((0 : Int32))) (by decide)) : Rg (0) (1) ((0 : Int32))) (by decide) (by decide) (pm_a hA rfl)) (fun h_2q2 T_15 w_16 => ?_)
        refine s_q (fun v_1q3 e_17 => ?_)
        have i_v_1q3 : Rg (1) (4096) (v_1q3) := by rw [e_17]; exact (rg_add i_x3 (rg_b rfl : Rg (1) (1) ((1 : Int32))) (by decide) : Rg (1) (4096) (x3 + (1 : Int32)))
        have m_18 : (v_5).toInt = x2.toInt + 1 := by rw [e_9]; exact rg_inc i_x2 (by decide)
        have m_19 : (v_1q3).toInt = x3.toInt + 1 := by rw [e_17]; exact rg_inc i_x3 (by decide)
        have m_20 : (v_1q3).toInt = x3.toInt + 1 := by rw [e_17]; exact rg_inc i_x3 (by decide)
        exact hk_4 T_15 r_x0 (rg_m i_v_5 (by decide)) (rg_m i_v_1q3 (by decide)) (by omega) (by have := hc_4; omega)
      · have _ := c_13
        have i_f_21 : Rg (0) (11) (o_7.1) := rg_nlo c_13 i_o_7 (rg_b rfl : Rg (-1) (-1) ((- 1 : Int32)))
        refine s_gd (rg_bool (rg_m (rg_b rfl : Rg (1) (1) ((1 : Int32))) (by decide))) ?_
        refine s_hq (th_wI T_12 r_x0 (k := 6) (lo := (0)) (hi := (1)) rfl ((rg_m (rg_b rfl : Rg (1) (1) ((1 : Int32))) (by decide)) : Rg (0) (1) ((1 : Int32))) (by decide) (by decide) (pm_a hA rfl)) (fun h_2q5 T_22 w_23 => ?_)
        refine s_q (fun v_1q6 e_24 => ?_)
        have i_v_1q6 : Rg (1) (4096) (v_1q6) := by rw [e_24]; exact (rg_add i_x3 (rg_b rfl : Rg (1) (1) ((1 : Int32))) (by decide) : Rg (1) (4096) (x3 + (1 : Int32)))
        have m_25 : (v_5).toInt = x2.toInt + 1 := by rw [e_9]; exact rg_inc i_x2 (by decide)
        have m_26 : (v_1q6).toInt = x3.toInt + 1 := by rw [e_24]; exact rg_inc i_x3 (by decide)
        have m_27 : (v_1q6).toInt = x3.toInt + 1 := by rw [e_24]; exact rg_inc i_x3 (by decide)
        exact hk_4 T_22 r_x0 (rg_m i_v_5 (by decide)) (rg_m i_v_1q6 (by decide)) (by omega) (by have := hc_4; omega)
    · have _ := c_10
      have i_f_28 : Rg (1) (1) ((hI h_4 x0 7)) := rg_nlo c_10 (thI T_7 r_x0 (k := 6) (i := 7) rfl : Rg (0) (1) ((hI h_4 x0 7))) (rg_b rfl : Rg (0) (0) (0 : Int32))
      refine s_gd (rg_bool (rg_m (rg_b rfl : Rg (1) (1) ((1 : Int32))) (by decide))) ?_
      refine s_hq (th_wI T_7 r_x0 (k := 6) (lo := (0)) (hi := (1)) rfl ((rg_m (rg_b rfl : Rg (1) (1) ((1 : Int32))) (by decide)) : Rg (0) (1) ((1 : Int32))) (by decide) (by decide) (pm_a hA rfl)) (fun h_2q8 T_29 w_30 => ?_)
      refine s_q (fun v_1q9 e_31 => ?_)
      have i_v_1q9 : Rg (1) (4096) (v_1q9) := by rw [e_31]; exact (rg_add i_x3 (rg_b rfl : Rg (1) (1) ((1 : Int32))) (by decide) : Rg (1) (4096) (x3 + (1 : Int32)))
      have m_32 : (v_5).toInt = x2.toInt + 1 := by rw [e_9]; exact rg_inc i_x2 (by decide)
      have m_33 : (v_1q9).toInt = x3.toInt + 1 := by rw [e_31]; exact rg_inc i_x3 (by decide)
      have m_34 : (v_1q9).toInt = x3.toInt + 1 := by rw [e_31]; exact rg_inc i_x3 (by decide)
      exact hk_4 T_29 r_x0 (rg_m i_v_5 (by decide)) (rg_m i_v_1q9 (by decide)) (by omega) (by have := hc_4; omega)
set_option maxRecDepth 20000 in
theorem zX5_keepLawful_4 {ρ : Nat → Nat} {c : Cm} {F : Nat} (hF : 700000 ≤ F) (m3 : c.2.1 3 = true) (m4 : c.2.1 4 = true) (hA : pmA c [(47, 999), (6, 6), (6, 7)]) (hi_1503 : pmO c 1503 [(34, 999), (35, 999), (36, 999), (37, 999), (38, 999), (4, 5), (4, 6), (4, 7), (4, 8), (4, 9), (4, 10)]) : ∀ (f : Nat) {h : Hp} {x0 : Nat} {x2 : Int32} {x3 : Int32}, TH ρ c h → ρ x0 = 6 → Rg (0) (4096) (x2) → Rg (0) (4096) (x3) → x2.toInt ≤ x3.toInt + 0 → (4096 - x3.toInt).toNat < f → Sat (sX5_keepLawful_4 F f h x0 x2 x3) (ZV ρ c) := by
  intro f
  induction f with
  | zero => intros; omega
  | succ f ih =>
    intro h x0 x2 x3 T r_x0 i_x2 i_x3 le_x2_x3 hm
    rw [sX5_keepLawful_4]
    obtain ⟨C_4, hC_4⟩ : ∃ C : Int, C = x3.toInt := ⟨_, rfl⟩
    have hk_4 : ∀ {h : Hp} {x0 : Nat} {x2 : Int32} {x3 : Int32}, TH ρ c h → ρ x0 = 6 → Rg (0) (4096) (x2) → Rg (0) (4096) (x3) → x2.toInt ≤ x3.toInt + 0 → C_4 < x3.toInt → Sat (sX5_keepLawful_4 F f h x0 x2 x3) (ZV ρ c) := by
      intro h' x0' x2' x3' T' r_x0' i_x2' i_x3' le_x2_x3' hl
      exact ih T' r_x0' i_x2' i_x3' le_x2_x3' (by have := i_x3'.1; have := i_x3'.2; omega)
    have hc_4 : C_4 ≤ x3.toInt := by omega
    refine s_br (fun c_1 => ?_) (fun c_1 => ?_)
    · have _ := c_1
      refine s_hq (th_wI T r_x0 (k := 6) (lo := (0)) (hi := (4096)) rfl (i_x2 : Rg (0) (4096) (x2)) (by decide) (by decide) (pm_a hA rfl)) (fun h_2 T_2 w_3 => ?_)
      exact s_some (T_2)
    · have _ := c_1
      have i_f_4 : Rg (0) (4095) (x3) := rg_lt1 (nle_lt c_1) i_x3 (thI T r_x0 (k := 6) (i := 6) rfl : Rg (0) (4096) ((hI h x0 6)))
      have i_f_5 : Rg (1) (4096) ((hI h x0 6)) := rg_lt2 (nle_lt c_1) i_x3 (thI T r_x0 (k := 6) (i := 6) rfl : Rg (0) (4096) ((hI h x0 6)))
      have i_r_6 : Rg (0) (4095) (x2) := ⟨i_x2.1, by have := i_f_4.2; have := le_x2_x3; omega⟩
      obtain ⟨r_3, e_r_3, q_r_3⟩ := thM T r_x0 (k := 6) (i := 5) (j := 4) (k2 := 47) rfl (by decide) rfl (by decide) m4
      refine s_ref e_r_3 ?_
      refine s_gd (by rw [thN T q_r_3 (k := 47) (n := 4096) rfl (by decide)]; exact rg_inB (i_f_4 : Rg (0) (4095) (x3)) (by decide)) ?_
      refine s_q (fun v_5 e_7 => ?_)
      have i_v_5 : Rg (-2147483648) (2147483647) (v_5) := by rw [e_7]; exact (thI T q_r_3 (k := 47) rfl : Rg (-2147483648) (2147483647) (hI h r_3 x3.toNatClampNeg))
      refine s_dI0 (zX5_isSafe hF m3 T r_x0 i_v_5) (fun o_6 eb_o_6 e_o_6 i_o_6 => ?_)
      have T_8 := th_eq e_o_6 T
      refine s_br (fun c_9 => ?_) (fun c_9 => ?_)
      · have _ := c_9
        have i_f_10 : Rg (0) (0) (o_6.1) := rg_eq c_9 (rg_b rfl : Rg (0) (0) (0 : Int32))
        obtain ⟨r_8, e_r_8, q_r_8⟩ := thR T_8 r_x0 (k := 6) (i := 3) (k2 := 4) rfl (by decide)
        refine s_ref e_r_8 ?_
        obtain ⟨r_9, e_r_9, q_r_9⟩ := thM T_8 r_x0 (k := 6) (i := 4) (j := 3) (k2 := 4) rfl (by decide) rfl (by decide) m3
        refine s_ref e_r_9 ?_
        refine s_cV (zX3_copyFrom hF (pmO_e (th_id T_8 r_x0 (k := 6) (i := 3) (w := 1503) e_r_8 rfl (by decide)) hi_1503 rfl) T_8 q_r_8 q_r_9) (fun o_10 T_11 => ?_)
        obtain ⟨r_11, e_r_11, q_r_11⟩ := thR T_11 r_x0 (k := 6) (i := 3) (k2 := 4) rfl (by decide)
        refine s_ref e_r_11 ?_
        refine s_cVq (zX5_shift hF (pmO_s hi_1503 rfl) (th_id T_11 r_x0 (k := 6) (i := 3) (w := 1503) e_r_11 rfl (by decide)) T_11 r_x0 q_r_11 i_v_5 (by rw [e_7]; exact (thG T q_r_3))) (fun o_12 T_12 p_o_12 => ?_)
        obtain ⟨r_13, e_r_13, q_r_13⟩ := thR T_12 r_x0 (k := 6) (i := 3) (k2 := 4) rfl (by decide)
        refine s_ref e_r_13 ?_
        refine s_cVq (zX5_blast hF (pmO_s hi_1503 rfl) (th_id T_12 r_x0 (k := 6) (i := 3) (w := 1503) e_r_13 rfl (by decide)) T_12 r_x0 q_r_13 i_v_5 (by rw [e_7]; exact (thG T q_r_3))) (fun o_14 T_13 p_o_14 => ?_)
        refine s_dI0 (zX5_mayStand hF m3 T_13 r_x0) (fun o_15 eb_o_15 e_o_15 i_o_15 => ?_)
        have T_14 := th_eq e_o_15 T_13
        exact zX5_keepLawful_70 hF m4 @hk_4 (pmA_s hA rfl) T_14 r_x0 i_r_6 i_f_4 i_v_5 i_o_15 hc_4 (by omega) (by rw [e_7]; exact (thG T q_r_3))
      · have _ := c_9
        have i_f_15 : Rg (1) (1) (o_6.1) := rg_nlo c_9 i_o_6 (rg_b rfl : Rg (0) (0) (0 : Int32))
        exact zX5_keepLawful_70 hF m4 @hk_4 (pmA_s hA rfl) T_8 r_x0 i_r_6 i_f_4 i_v_5 (rg_m i_f_15 (by decide)) hc_4 (by omega) (by rw [e_7]; exact (thG T q_r_3))
set_option maxRecDepth 20000 in
theorem zX5_keepLawful {ρ : Nat → Nat} {c : Cm} {F : Nat} (hF : 700000 ≤ F) (m3 : c.2.1 3 = true) (m4 : c.2.1 4 = true) (hA : pmA c [(47, 999), (6, 6), (6, 7)]) (hi_1503 : pmO c 1503 [(34, 999), (35, 999), (36, 999), (37, 999), (38, 999), (4, 5), (4, 6), (4, 7), (4, 8), (4, 9), (4, 10)]) {h : Hp} {x0 : Nat} {x1 : Int32} (T : TH ρ c h) (r_x0 : ρ x0 = 6) (i_x1 : Rg (0) (4095) (x1)) : Sat (sX5_keepLawful F h x0 x1) (ZV ρ c) := by
  unfold sX5_keepLawful 
  have m_1 : Rg (0) (4096) (x1) := (rg_m i_x1 (by decide))
  exact zX5_keepLawful_4 hF m3 m4 (pmA_s hA rfl) (pmO_s hi_1503 rfl) F T r_x0 (rg_m i_x1 (by decide)) (rg_m i_x1 (by decide)) (by omega) (by have := m_1.1; have := m_1.2; omega)
set_option maxRecDepth 20000 in
theorem zX5_keepTakes_4 {ρ : Nat → Nat} {c : Cm} {F : Nat} (hF : 700000 ≤ F) (m4 : c.2.1 4 = true) (hA : pmA c [(47, 999), (6, 6)]) : ∀ (f : Nat) {h : Hp} {x0 : Nat} {x1 : Int32} {x2 : Int32}, TH ρ c h → ρ x0 = 6 → Rg (0) (4096) (x1) → Rg (0) (4096) (x2) → x1.toInt ≤ x2.toInt + 0 → (4096 - x2.toInt).toNat < f → Sat (sX5_keepTakes_4 F f h x0 x1 x2) (ZV ρ c) := by
  intro f
  induction f with
  | zero => intros; omega
  | succ f ih =>
    intro h x0 x1 x2 T r_x0 i_x1 i_x2 le_x1_x2 hm
    rw [sX5_keepTakes_4]
    unfold sX5_keepTakes_40
    obtain ⟨C_4, hC_4⟩ : ∃ C : Int, C = x2.toInt := ⟨_, rfl⟩
    have hk_4 : ∀ {h : Hp} {x0 : Nat} {x1 : Int32} {x2 : Int32}, TH ρ c h → ρ x0 = 6 → Rg (0) (4096) (x1) → Rg (0) (4096) (x2) → x1.toInt ≤ x2.toInt + 0 → C_4 < x2.toInt → Sat (sX5_keepTakes_4 F f h x0 x1 x2) (ZV ρ c) := by
      intro h' x0' x1' x2' T' r_x0' i_x1' i_x2' le_x1_x2' hl
      exact ih T' r_x0' i_x1' i_x2' le_x1_x2' (by have := i_x2'.1; have := i_x2'.2; omega)
    have hc_4 : C_4 ≤ x2.toInt := by omega
    refine s_br (fun c_1 => ?_) (fun c_1 => ?_)
    · have _ := c_1
      refine s_hq (th_wI T r_x0 (k := 6) (lo := (0)) (hi := (4096)) rfl (i_x1 : Rg (0) (4096) (x1)) (by decide) (by decide) (pm_a hA rfl)) (fun h_2 T_2 w_3 => ?_)
      exact s_some (T_2)
    · have _ := c_1
      have i_f_4 : Rg (0) (4095) (x2) := rg_lt1 (nle_lt c_1) i_x2 (thI T r_x0 (k := 6) (i := 6) rfl : Rg (0) (4096) ((hI h x0 6)))
      have i_f_5 : Rg (1) (4096) ((hI h x0 6)) := rg_lt2 (nle_lt c_1) i_x2 (thI T r_x0 (k := 6) (i := 6) rfl : Rg (0) (4096) ((hI h x0 6)))
      have i_r_6 : Rg (0) (4095) (x1) := ⟨i_x1.1, by have := i_f_4.2; have := le_x1_x2; omega⟩
      obtain ⟨r_3, e_r_3, q_r_3⟩ := thM T r_x0 (k := 6) (i := 5) (j := 4) (k2 := 47) rfl (by decide) rfl (by decide) m4
      refine s_ref e_r_3 ?_
      refine s_gd (by rw [thN T q_r_3 (k := 47) (n := 4096) rfl (by decide)]; exact rg_inB (i_f_4 : Rg (0) (4095) (x2)) (by decide)) ?_
      refine s_dI0 (zX5_takenBy hF T (thI T q_r_3 (k := 47) rfl : Rg (-2147483648) (2147483647) ((hI h r_3 x2.toNatClampNeg))) (thG T q_r_3)) (fun o_5 eb_o_5 e_o_5 i_o_5 => ?_)
      have T_7 := th_eq e_o_5 T
      refine s_br (fun c_8 => ?_) (fun c_8 => ?_)
      · have _ := c_8
        have i_f_9 : Rg (-1) (-1) (o_5.1) := rg_eq c_8 (rg_b rfl : Rg (-1) (-1) ((- 1 : Int32)))
        refine s_q (fun v_1q1 e_10 => ?_)
        have i_v_1q1 : Rg (1) (4096) (v_1q1) := by rw [e_10]; exact (rg_add i_f_4 (rg_b rfl : Rg (1) (1) ((1 : Int32))) (by decide) : Rg (1) (4096) (x2 + (1 : Int32)))
        have m_11 : (v_1q1).toInt = x2.toInt + 1 := by rw [e_10]; exact rg_inc i_f_4 (by decide)
        have m_12 : (v_1q1).toInt = x2.toInt + 1 := by rw [e_10]; exact rg_inc i_f_4 (by decide)
        exact hk_4 T_7 r_x0 (rg_m i_r_6 (by decide)) (rg_m i_v_1q1 (by decide)) (by omega) (by have := hc_4; omega)
      · have _ := c_8
        have i_f_13 : Rg (0) (11) (o_5.1) := rg_nlo c_8 i_o_5 (rg_b rfl : Rg (-1) (-1) ((- 1 : Int32)))
        refine s_ref (hr_e e_o_5 e_r_3) ?_
        refine s_ref (hr_e e_o_5 e_r_3) ?_
        refine s_gd (by rw [thN T_7 q_r_3 (k := 47) (n := 4096) rfl (by decide)]; exact rg_inB (i_f_4 : Rg (0) (4095) (x2)) (by decide)) ?_
        refine s_gd (by rw [thN T_7 q_r_3 (k := 47) (n := 4096) rfl (by decide)]; exact rg_inB (i_r_6 : Rg (0) (4095) (x1)) (by decide)) ?_
        refine s_hq (th_wI T_7 q_r_3 (k := 47) (lo := (-2147483648)) (hi := (2147483647)) rfl ((thI T_7 q_r_3 (k := 47) rfl : Rg (-2147483648) (2147483647) ((hI o_5.2 r_3 x2.toNatClampNeg))) : Rg (-2147483648) (2147483647) ((hI o_5.2 r_3 x2.toNatClampNeg))) (by decide) (by decide) (pm_a hA rfl) (rpG (thG T_7 q_r_3))) (fun h_11 T_14 w_15 => ?_)
        refine s_q (fun v_12 e_16 => ?_)
        have i_v_12 : Rg (1) (4096) (v_12) := by rw [e_16]; exact (rg_add i_r_6 (rg_b rfl : Rg (1) (1) ((1 : Int32))) (by decide) : Rg (1) (4096) (x1 + (1 : Int32)))
        refine s_q (fun v_1q2 e_17 => ?_)
        have i_v_1q2 : Rg (1) (4096) (v_1q2) := by rw [e_17]; exact (rg_add i_f_4 (rg_b rfl : Rg (1) (1) ((1 : Int32))) (by decide) : Rg (1) (4096) (x2 + (1 : Int32)))
        have m_18 : (v_12).toInt = x1.toInt + 1 := by rw [e_16]; exact rg_inc i_r_6 (by decide)
        have m_19 : (v_1q2).toInt = x2.toInt + 1 := by rw [e_17]; exact rg_inc i_f_4 (by decide)
        have m_20 : (v_1q2).toInt = x2.toInt + 1 := by rw [e_17]; exact rg_inc i_f_4 (by decide)
        exact hk_4 T_14 r_x0 (rg_m i_v_12 (by decide)) (rg_m i_v_1q2 (by decide)) (by omega) (by have := hc_4; omega)
