set_option maxRecDepth 20000 in
theorem zX15_isSame_212 {ρ : Nat → Nat} {c : Cm} {F : Nat} {w_x1 w_x2 : Nat} (hF : 700000 ≤ F) (hA : pmA c [(87, 999), (88, 999), (89, 999), (16, 23), (16, 24), (16, 29)]) (hi_2528 : pmO c 2528 [(62, 999), (63, 999), (64, 999), (65, 999), (13, 1), (13, 2), (13, 3), (13, 7)]) (hi_2531 : pmO c 2531 [(66, 999), (67, 999), (68, 999), (69, 999), (70, 999), (71, 999), (72, 999), (14, 0)]) {h : Hp} {x0 : Nat} {x1 : Nat} {x2 : Nat} {x3 : Int32} {x4 : Int32} (o_x1 : cw c x1 = w_x1) (o_x2 : cw c x2 = w_x2) (nw_x1_2528 : ¬ w_x1 = 2528) (nw_x2_2528 : ¬ w_x2 = 2528) (T : TH ρ c h) (r_x0 : ρ x0 = 16) (r_x1 : ρ x1 = 13) (r_x2 : ρ x2 = 13) (i_x3 : Rg (0) (1) (x3)) (i_x4 : Rg (0) (1) (x4)) (sq : (SqOk x0 h)) (pe : (PE x1 h)) (pf : (PE x2 h)) : Sat (sX15_isSame_212 F h x0 x1 x2 x3 x4) (ZI ρ c (0) (1)) := by
  unfold sX15_isSame_212 sX15_isSame_241 sX15_isSame_242 sX15_isSame_237
  refine s_br (fun c_1 => ?_) (fun c_1 => ?_)
  · have _ := c_1
    have i_f_2 : Rg (0) (0) (x3) := rg_eq c_1 (rg_b rfl : Rg (0) (0) (0 : Int32))
    refine s_gd (rg_bool (rg_m (rg_b rfl : Rg (0) (0) ((0 : Int32))) (by decide))) ?_
    exact s_some ⟨(T), (rg_m (rg_b rfl : Rg (0) (0) ((0 : Int32))) (by decide))⟩
  · have _ := c_1
    have i_f_3 : Rg (1) (1) (x3) := rg_nlo c_1 i_x3 (rg_b rfl : Rg (0) (0) (0 : Int32))
    refine s_br (fun c_4 => ?_) (fun c_4 => ?_)
    · have _ := c_4
      have i_f_5 : Rg (0) (0) (x4) := rg_eq c_4 (rg_b rfl : Rg (0) (0) (0 : Int32))
      refine s_cIf (S := fS [(87, 999), (88, 999), (89, 999), (16, 23), (16, 24), (16, 29)] [(2528, [(62, 999), (63, 999), (64, 999), (65, 999), (13, 1), (13, 2), (13, 3), (13, 7)]), (2531, [(66, 999), (67, 999), (68, 999), (69, 999), (70, 999), (71, 999), (72, 999), (14, 0)])]) T (fs_sub (pmA_s hA rfl) (fs_c (pmO_s hi_2528 rfl) (fs_c (pmO_s hi_2531 rfl) fs_n))) (zX15_hasCatch hF fs_a (fs_o (.head _)) (fs_o (.tail _ (.head _))) o_x1 nw_x1_2528 (th_in _ T) r_x0 r_x1 sq pe) (fun o_3 T_6 i_o_3 f_o_3 => ?_)
      refine s_br (fun c_7 => ?_) (fun c_7 => ?_)
      · have _ := c_7
        have i_f_8 : Rg (0) (0) (o_3.1) := rg_eq c_7 (rg_b rfl : Rg (0) (0) (0 : Int32))
        have pf_9 : SqOk x0 o_3.2 := (sq_fr T r_x0 f_o_3 (fun _ => rfl) (fun _ => rfl) (fun _ => rfl) sq)
        have pf_10 : PE x2 o_3.2 := (pe_fr T r_x2 f_o_3 rfl (by rw [o_x2]; exact fs_cf (Or.inr nw_x2_2528) (fs_cf (Or.inl rfl) (fs_nf rfl))) rfl (by rw [o_x2]; intro _; exact fs_cf (Or.inr nw_x2_2528) (fs_cf (Or.inl rfl) (fs_nf rfl))) (by rw [o_x2]; intro _; exact fs_cf (Or.inr nw_x2_2528) (fs_cf (Or.inl rfl) (fs_nf rfl))) pf)
        refine s_cI (zX15_hasCatch hF (pmA_s hA rfl) (pmO_s hi_2528 rfl) (pmO_s hi_2531 rfl) o_x2 nw_x2_2528 T_6 r_x0 r_x2 pf_9 pf_10) (fun o_5 T_11 i_o_5 => ?_)
        refine s_br (fun c_12 => ?_) (fun c_12 => ?_)
        · have _ := c_12
          have i_f_13 : Rg (0) (0) (o_5.1) := rg_eq c_12 (rg_b rfl : Rg (0) (0) (0 : Int32))
          refine s_gd (rg_bool (rg_m (rg_b rfl : Rg (1) (1) ((1 : Int32))) (by decide))) ?_
          exact s_some ⟨(T_11), (rg_m (rg_b rfl : Rg (1) (1) ((1 : Int32))) (by decide))⟩
        · have _ := c_12
          have i_f_14 : Rg (1) (1) (o_5.1) := rg_nlo c_12 i_o_5 (rg_b rfl : Rg (0) (0) (0 : Int32))
          refine s_gd (rg_bool (rg_m (rg_b rfl : Rg (0) (0) ((0 : Int32))) (by decide))) ?_
          exact s_some ⟨(T_11), (rg_m (rg_b rfl : Rg (0) (0) ((0 : Int32))) (by decide))⟩
      · have _ := c_7
        have i_f_15 : Rg (1) (1) (o_3.1) := rg_nlo c_7 i_o_3 (rg_b rfl : Rg (0) (0) (0 : Int32))
        refine s_gd (rg_bool (rg_m (rg_b rfl : Rg (0) (0) ((0 : Int32))) (by decide))) ?_
        exact s_some ⟨(T_6), (rg_m (rg_b rfl : Rg (0) (0) ((0 : Int32))) (by decide))⟩
    · have _ := c_4
      have i_f_16 : Rg (1) (1) (x4) := rg_nlo c_4 i_x4 (rg_b rfl : Rg (0) (0) (0 : Int32))
      refine s_gd (rg_bool (rg_m (rg_b rfl : Rg (1) (1) ((1 : Int32))) (by decide))) ?_
      exact s_some ⟨(T), (rg_m (rg_b rfl : Rg (1) (1) ((1 : Int32))) (by decide))⟩
set_option maxRecDepth 20000 in
theorem zX15_isSame_168 {ρ : Nat → Nat} {c : Cm} {F : Nat} {w_x1 w_x2 : Nat} (hF : 700000 ≤ F) (hA : pmA c [(87, 999), (88, 999), (89, 999), (16, 23), (16, 24), (16, 29)]) (hi_2528 : pmO c 2528 [(62, 999), (63, 999), (64, 999), (65, 999), (13, 1), (13, 2), (13, 3), (13, 7)]) (hi_2531 : pmO c 2531 [(66, 999), (67, 999), (68, 999), (69, 999), (70, 999), (71, 999), (72, 999), (14, 0)]) : ∀ (f : Nat) {h : Hp} {x0 : Nat} {x1 : Nat} {x2 : Nat} {x3 : Int32} {x4 : Int32} {x5 : Int32}, cw c x1 = w_x1 → cw c x2 = w_x2 → ¬ w_x1 = 2528 → ¬ w_x2 = 2528 → TH ρ c h → ρ x0 = 16 → ρ x1 = 13 → ρ x2 = 13 → Rg (0) (1) (x3) → Rg (0) (1) (x4) → Rg (0) (64) (x5) → (SqOk x0 h) → (PE x1 h) → (PE x2 h) → (64 - x5.toInt).toNat < f → Sat (sX15_isSame_168 F f h x0 x1 x2 x3 x4 x5) (ZI ρ c (0) (1)) := by
  intro f
  induction f with
  | zero => intros; omega
  | succ f ih =>
    intro h x0 x1 x2 x3 x4 x5 o_x1 o_x2 nw_x1_2528 nw_x2_2528 T r_x0 r_x1 r_x2 i_x3 i_x4 i_x5 sq pe pf hm
    rw [sX15_isSame_168]
    unfold sX15_isSame_204
    obtain ⟨C_168, hC_168⟩ : ∃ C : Int, C = x5.toInt := ⟨_, rfl⟩
    have hk_168 : ∀ {h : Hp} {x0 : Nat} {x1 : Nat} {x2 : Nat} {x3 : Int32} {x4 : Int32} {x5 : Int32}, cw c x1 = w_x1 → cw c x2 = w_x2 → ¬ w_x1 = 2528 → ¬ w_x2 = 2528 → TH ρ c h → ρ x0 = 16 → ρ x1 = 13 → ρ x2 = 13 → Rg (0) (1) (x3) → Rg (0) (1) (x4) → Rg (0) (64) (x5) → (SqOk x0 h) → (PE x1 h) → (PE x2 h) → C_168 < x5.toInt → Sat (sX15_isSame_168 F f h x0 x1 x2 x3 x4 x5) (ZI ρ c (0) (1)) := by
      intro h' x0' x1' x2' x3' x4' x5' o_x1' o_x2' nw_x1_2528' nw_x2_2528' T' r_x0' r_x1' r_x2' i_x3' i_x4' i_x5' sq' pe' pf' hl
      exact ih o_x1' o_x2' nw_x1_2528' nw_x2_2528' T' r_x0' r_x1' r_x2' i_x3' i_x4' i_x5' sq' pe' pf' (by have := i_x5'.1; have := i_x5'.2; omega)
    have hc_168 : C_168 ≤ x5.toInt := by omega
    refine s_br (fun c_1 => ?_) (fun c_1 => ?_)
    · have _ := c_1
      exact zX15_isSame_212 hF (pmA_s hA rfl) (pmO_s hi_2528 rfl) (pmO_s hi_2531 rfl) o_x1 o_x2 nw_x1_2528 nw_x2_2528 T r_x0 r_x1 r_x2 i_x3 i_x4 sq pe pf
    · have _ := c_1
      have i_f_2 : Rg (0) (63) (x5) := rg_lt1 (nle_lt c_1) i_x5 (thI T r_x1 (k := 13) (i := 3) rfl : Rg (0) (64) ((hI h x1 3)))
      have i_f_3 : Rg (1) (64) ((hI h x1 3)) := rg_lt2 (nle_lt c_1) i_x5 (thI T r_x1 (k := 13) (i := 3) rfl : Rg (0) (64) ((hI h x1 3)))
      refine s_br (fun c_4 => ?_) (fun c_4 => ?_)
      · have _ := c_4
        have i_f_5 : Rg (0) (0) (x4) := rg_eq c_4 (rg_b rfl : Rg (0) (0) (0 : Int32))
        exact zX15_isSame_212 hF (pmA_s hA rfl) (pmO_s hi_2528 rfl) (pmO_s hi_2531 rfl) o_x1 o_x2 nw_x1_2528 nw_x2_2528 T r_x0 r_x1 r_x2 i_x3 (rg_m i_f_5 (by decide)) sq pe pf
      · have _ := c_4
        have i_f_6 : Rg (1) (1) (x4) := rg_nlo c_4 i_x4 (rg_b rfl : Rg (0) (0) (0 : Int32))
        obtain ⟨r_3, e_r_3, q_r_3⟩ := thR T r_x1 (k := 13) (i := 4) (k2 := 63) rfl (by decide)
        refine s_ref e_r_3 ?_
        refine s_gd (by rw [thN T q_r_3 (k := 63) (n := 64) rfl (by decide)]; exact rg_inB (i_f_2 : Rg (0) (63) (x5)) (by decide)) ?_
        obtain ⟨r_5, e_r_5, q_r_5⟩ := thR T r_x2 (k := 13) (i := 4) (k2 := 63) rfl (by decide)
        refine s_ref e_r_5 ?_
        refine s_gd (by rw [thN T q_r_5 (k := 63) (n := 64) rfl (by decide)]; exact rg_inB (i_f_2 : Rg (0) (63) (x5)) (by decide)) ?_
        refine s_br (fun c_7 => ?_) (fun c_7 => ?_)
        · have _ := c_7
          refine s_q (fun v_1q1 e_8 => ?_)
          have i_v_1q1 : Rg (1) (64) (v_1q1) := by rw [e_8]; exact (rg_add i_f_2 (rg_b rfl : Rg (1) (1) ((1 : Int32))) (by decide) : Rg (1) (64) (x5 + (1 : Int32)))
          have m_9 : (v_1q1).toInt = x5.toInt + 1 := by rw [e_8]; exact rg_inc i_f_2 (by decide)
          exact hk_168 o_x1 o_x2 nw_x1_2528 nw_x2_2528 T r_x0 r_x1 r_x2 i_x3 (rg_m (rg_b rfl : Rg (1) (1) ((1 : Int32))) (by decide)) (rg_m i_v_1q1 (by decide)) sq pe pf (by have := hc_168; omega)
        · have _ := c_7
          refine s_q (fun v_1q2 e_10 => ?_)
          have i_v_1q2 : Rg (1) (64) (v_1q2) := by rw [e_10]; exact (rg_add i_f_2 (rg_b rfl : Rg (1) (1) ((1 : Int32))) (by decide) : Rg (1) (64) (x5 + (1 : Int32)))
          have m_11 : (v_1q2).toInt = x5.toInt + 1 := by rw [e_10]; exact rg_inc i_f_2 (by decide)
          exact hk_168 o_x1 o_x2 nw_x1_2528 nw_x2_2528 T r_x0 r_x1 r_x2 i_x3 (rg_m (rg_b rfl : Rg (0) (0) ((0 : Int32))) (by decide)) (rg_m i_v_1q2 (by decide)) sq pe pf (by have := hc_168; omega)
set_option maxRecDepth 20000 in
theorem zX15_isSame_107 {ρ : Nat → Nat} {c : Cm} {F : Nat} {w_x1 w_x2 : Nat} (hF : 700000 ≤ F) (hA : pmA c [(87, 999), (88, 999), (89, 999), (16, 23), (16, 24), (16, 29)]) (hi_2528 : pmO c 2528 [(62, 999), (63, 999), (64, 999), (65, 999), (13, 1), (13, 2), (13, 3), (13, 7)]) (hi_2531 : pmO c 2531 [(66, 999), (67, 999), (68, 999), (69, 999), (70, 999), (71, 999), (72, 999), (14, 0)]) : ∀ (f : Nat) {h : Hp} {x0 : Nat} {x1 : Nat} {x2 : Nat} {x3 : Int32} {x4 : Int32}, cw c x1 = w_x1 → cw c x2 = w_x2 → ¬ w_x1 = 2528 → ¬ w_x2 = 2528 → TH ρ c h → ρ x0 = 16 → ρ x1 = 13 → ρ x2 = 13 → Rg (0) (1) (x3) → Rg (0) (24) (x4) → (SqOk x0 h) → (PE x1 h) → (PE x2 h) → (24 - x4.toInt).toNat < f → Sat (sX15_isSame_107 F f h x0 x1 x2 x3 x4) (ZI ρ c (0) (1)) := by
  intro f
  induction f with
  | zero => intros; omega
  | succ f ih =>
    intro h x0 x1 x2 x3 x4 o_x1 o_x2 nw_x1_2528 nw_x2_2528 T r_x0 r_x1 r_x2 i_x3 i_x4 sq pe pf hm
    rw [sX15_isSame_107]
    unfold sX15_isSame_147 sX15_isSame_163 sX15_isSame_140
    obtain ⟨C_107, hC_107⟩ : ∃ C : Int, C = x4.toInt := ⟨_, rfl⟩
    have hk_107 : ∀ {h : Hp} {x0 : Nat} {x1 : Nat} {x2 : Nat} {x3 : Int32} {x4 : Int32}, cw c x1 = w_x1 → cw c x2 = w_x2 → ¬ w_x1 = 2528 → ¬ w_x2 = 2528 → TH ρ c h → ρ x0 = 16 → ρ x1 = 13 → ρ x2 = 13 → Rg (0) (1) (x3) → Rg (0) (24) (x4) → (SqOk x0 h) → (PE x1 h) → (PE x2 h) → C_107 < x4.toInt → Sat (sX15_isSame_107 F f h x0 x1 x2 x3 x4) (ZI ρ c (0) (1)) := by
      intro h' x0' x1' x2' x3' x4' o_x1' o_x2' nw_x1_2528' nw_x2_2528' T' r_x0' r_x1' r_x2' i_x3' i_x4' sq' pe' pf' hl
      exact ih o_x1' o_x2' nw_x1_2528' nw_x2_2528' T' r_x0' r_x1' r_x2' i_x3' i_x4' sq' pe' pf' (by have := i_x4'.1; have := i_x4'.2; omega)
    have hc_107 : C_107 ≤ x4.toInt := by omega
    refine s_br (fun c_1 => ?_) (fun c_1 => ?_)
    · have _ := c_1
      have i_f_2 : Rg (24) (24) (x4) := rg_le2 c_1 (rg_b rfl : Rg (24) (24) ((24 : Int32))) i_x4
      refine s_br (fun c_3 => ?_) (fun c_3 => ?_)
      · have _ := c_3
        have m_4 : Rg (0) (64) ((0 : Int32)) := (rg_m (rg_b rfl : Rg (0) (0) ((0 : Int32))) (by decide))
        exact zX15_isSame_168 hF (pmA_s hA rfl) (pmO_s hi_2528 rfl) (pmO_s hi_2531 rfl) F o_x1 o_x2 nw_x1_2528 nw_x2_2528 T r_x0 r_x1 r_x2 i_x3 (rg_m (rg_b rfl : Rg (1) (1) ((1 : Int32))) (by decide)) (rg_m (rg_b rfl : Rg (0) (0) ((0 : Int32))) (by decide)) sq pe pf (by have := m_4.1; have := m_4.2; omega)
      · have _ := c_3
        have m_5 : Rg (0) (64) ((0 : Int32)) := (rg_m (rg_b rfl : Rg (0) (0) ((0 : Int32))) (by decide))
        exact zX15_isSame_168 hF (pmA_s hA rfl) (pmO_s hi_2528 rfl) (pmO_s hi_2531 rfl) F o_x1 o_x2 nw_x1_2528 nw_x2_2528 T r_x0 r_x1 r_x2 i_x3 (rg_m (rg_b rfl : Rg (0) (0) ((0 : Int32))) (by decide)) (rg_m (rg_b rfl : Rg (0) (0) ((0 : Int32))) (by decide)) sq pe pf (by have := m_5.1; have := m_5.2; omega)
    · have _ := c_1
      have i_f_6 : Rg (0) (23) (x4) := rg_lt1 (nle_lt c_1) i_x4 (rg_b rfl : Rg (24) (24) ((24 : Int32)))
      refine s_br (fun c_7 => ?_) (fun c_7 => ?_)
      · have _ := c_7
        have i_f_8 : Rg (0) (0) (x3) := rg_eq c_7 (rg_b rfl : Rg (0) (0) (0 : Int32))
        refine s_br (fun c_9 => ?_) (fun c_9 => ?_)
        · have _ := c_9
          have m_10 : Rg (0) (64) ((0 : Int32)) := (rg_m (rg_b rfl : Rg (0) (0) ((0 : Int32))) (by decide))
          exact zX15_isSame_168 hF (pmA_s hA rfl) (pmO_s hi_2528 rfl) (pmO_s hi_2531 rfl) F o_x1 o_x2 nw_x1_2528 nw_x2_2528 T r_x0 r_x1 r_x2 (rg_m i_f_8 (by decide)) (rg_m (rg_b rfl : Rg (1) (1) ((1 : Int32))) (by decide)) (rg_m (rg_b rfl : Rg (0) (0) ((0 : Int32))) (by decide)) sq pe pf (by have := m_10.1; have := m_10.2; omega)
        · have _ := c_9
          have m_11 : Rg (0) (64) ((0 : Int32)) := (rg_m (rg_b rfl : Rg (0) (0) ((0 : Int32))) (by decide))
          exact zX15_isSame_168 hF (pmA_s hA rfl) (pmO_s hi_2528 rfl) (pmO_s hi_2531 rfl) F o_x1 o_x2 nw_x1_2528 nw_x2_2528 T r_x0 r_x1 r_x2 (rg_m i_f_8 (by decide)) (rg_m (rg_b rfl : Rg (0) (0) ((0 : Int32))) (by decide)) (rg_m (rg_b rfl : Rg (0) (0) ((0 : Int32))) (by decide)) sq pe pf (by have := m_11.1; have := m_11.2; omega)
      · have _ := c_7
        have i_f_12 : Rg (1) (1) (x3) := rg_nlo c_7 i_x3 (rg_b rfl : Rg (0) (0) (0 : Int32))
        obtain ⟨r_3, e_r_3, q_r_3⟩ := thR T r_x1 (k := 13) (i := 5) (k2 := 64) rfl (by decide)
        refine s_ref e_r_3 ?_
        refine s_gd (by rw [thN T q_r_3 (k := 64) (n := 24) rfl (by decide)]; exact rg_inB (i_f_6 : Rg (0) (23) (x4)) (by decide)) ?_
        obtain ⟨r_5, e_r_5, q_r_5⟩ := thR T r_x2 (k := 13) (i := 5) (k2 := 64) rfl (by decide)
        refine s_ref e_r_5 ?_
        refine s_gd (by rw [thN T q_r_5 (k := 64) (n := 24) rfl (by decide)]; exact rg_inB (i_f_6 : Rg (0) (23) (x4)) (by decide)) ?_
        refine s_br (fun c_13 => ?_) (fun c_13 => ?_)
        · have _ := c_13
          refine s_q (fun v_1q7 e_14 => ?_)
          have i_v_1q7 : Rg (1) (24) (v_1q7) := by rw [e_14]; exact (rg_add i_f_6 (rg_b rfl : Rg (1) (1) ((1 : Int32))) (by decide) : Rg (1) (24) (x4 + (1 : Int32)))
          have m_15 : (v_1q7).toInt = x4.toInt + 1 := by rw [e_14]; exact rg_inc i_f_6 (by decide)
          exact hk_107 o_x1 o_x2 nw_x1_2528 nw_x2_2528 T r_x0 r_x1 r_x2 (rg_m (rg_b rfl : Rg (1) (1) ((1 : Int32))) (by decide)) (rg_m i_v_1q7 (by decide)) sq pe pf (by have := hc_107; omega)
        · have _ := c_13
          refine s_q (fun v_1q8 e_16 => ?_)
          have i_v_1q8 : Rg (1) (24) (v_1q8) := by rw [e_16]; exact (rg_add i_f_6 (rg_b rfl : Rg (1) (1) ((1 : Int32))) (by decide) : Rg (1) (24) (x4 + (1 : Int32)))
          have m_17 : (v_1q8).toInt = x4.toInt + 1 := by rw [e_16]; exact rg_inc i_f_6 (by decide)
          exact hk_107 o_x1 o_x2 nw_x1_2528 nw_x2_2528 T r_x0 r_x1 r_x2 (rg_m (rg_b rfl : Rg (0) (0) ((0 : Int32))) (by decide)) (rg_m i_v_1q8 (by decide)) sq pe pf (by have := hc_107; omega)
set_option maxRecDepth 20000 in
theorem zX15_isSame_62 {ρ : Nat → Nat} {c : Cm} {F : Nat} {w_x1 w_x2 : Nat} (hF : 700000 ≤ F) (hA : pmA c [(87, 999), (88, 999), (89, 999), (16, 23), (16, 24), (16, 29)]) (hi_2528 : pmO c 2528 [(62, 999), (63, 999), (64, 999), (65, 999), (13, 1), (13, 2), (13, 3), (13, 7)]) (hi_2531 : pmO c 2531 [(66, 999), (67, 999), (68, 999), (69, 999), (70, 999), (71, 999), (72, 999), (14, 0)]) : ∀ (f : Nat) {h : Hp} {x0 : Nat} {x1 : Nat} {x2 : Nat} {x3 : Int32} {x4 : Int32}, cw c x1 = w_x1 → cw c x2 = w_x2 → ¬ w_x1 = 2528 → ¬ w_x2 = 2528 → TH ρ c h → ρ x0 = 16 → ρ x1 = 13 → ρ x2 = 13 → Rg (0) (1) (x3) → Rg (0) (64) (x4) → (SqOk x0 h) → (PE x1 h) → (PE x2 h) → (64 - x4.toInt).toNat < f → Sat (sX15_isSame_62 F f h x0 x1 x2 x3 x4) (ZI ρ c (0) (1)) := by
  intro f
  induction f with
  | zero => intros; omega
  | succ f ih =>
    intro h x0 x1 x2 x3 x4 o_x1 o_x2 nw_x1_2528 nw_x2_2528 T r_x0 r_x1 r_x2 i_x3 i_x4 sq pe pf hm
    rw [sX15_isSame_62]
    unfold sX15_isSame_104 sX15_isSame_97
    obtain ⟨C_62, hC_62⟩ : ∃ C : Int, C = x4.toInt := ⟨_, rfl⟩
    have hk_62 : ∀ {h : Hp} {x0 : Nat} {x1 : Nat} {x2 : Nat} {x3 : Int32} {x4 : Int32}, cw c x1 = w_x1 → cw c x2 = w_x2 → ¬ w_x1 = 2528 → ¬ w_x2 = 2528 → TH ρ c h → ρ x0 = 16 → ρ x1 = 13 → ρ x2 = 13 → Rg (0) (1) (x3) → Rg (0) (64) (x4) → (SqOk x0 h) → (PE x1 h) → (PE x2 h) → C_62 < x4.toInt → Sat (sX15_isSame_62 F f h x0 x1 x2 x3 x4) (ZI ρ c (0) (1)) := by
      intro h' x0' x1' x2' x3' x4' o_x1' o_x2' nw_x1_2528' nw_x2_2528' T' r_x0' r_x1' r_x2' i_x3' i_x4' sq' pe' pf' hl
      exact ih o_x1' o_x2' nw_x1_2528' nw_x2_2528' T' r_x0' r_x1' r_x2' i_x3' i_x4' sq' pe' pf' (by have := i_x4'.1; have := i_x4'.2; omega)
    have hc_62 : C_62 ≤ x4.toInt := by omega
    refine s_br (fun c_1 => ?_) (fun c_1 => ?_)
    · have _ := c_1
      have i_f_2 : Rg (9) (64) (x4) := rg_le2 c_1 (thI T r_x0 (k := 16) (i := 13) rfl : Rg (9) (64) ((hI h x0 13))) i_x4
      have m_3 : Rg (0) (24) ((0 : Int32)) := (rg_m (rg_b rfl : Rg (0) (0) ((0 : Int32))) (by decide))
      exact zX15_isSame_107 hF (pmA_s hA rfl) (pmO_s hi_2528 rfl) (pmO_s hi_2531 rfl) F o_x1 o_x2 nw_x1_2528 nw_x2_2528 T r_x0 r_x1 r_x2 i_x3 (rg_m (rg_b rfl : Rg (0) (0) ((0 : Int32))) (by decide)) sq pe pf (by have := m_3.1; have := m_3.2; omega)
    · have _ := c_1
      have i_f_4 : Rg (0) (63) (x4) := rg_lt1 (nle_lt c_1) i_x4 (thI T r_x0 (k := 16) (i := 13) rfl : Rg (9) (64) ((hI h x0 13)))
      refine s_br (fun c_5 => ?_) (fun c_5 => ?_)
      · have _ := c_5
        have i_f_6 : Rg (0) (0) (x3) := rg_eq c_5 (rg_b rfl : Rg (0) (0) (0 : Int32))
        have m_7 : Rg (0) (24) ((0 : Int32)) := (rg_m (rg_b rfl : Rg (0) (0) ((0 : Int32))) (by decide))
        exact zX15_isSame_107 hF (pmA_s hA rfl) (pmO_s hi_2528 rfl) (pmO_s hi_2531 rfl) F o_x1 o_x2 nw_x1_2528 nw_x2_2528 T r_x0 r_x1 r_x2 (rg_m i_f_6 (by decide)) (rg_m (rg_b rfl : Rg (0) (0) ((0 : Int32))) (by decide)) sq pe pf (by have := m_7.1; have := m_7.2; omega)
      · have _ := c_5
        have i_f_8 : Rg (1) (1) (x3) := rg_nlo c_5 i_x3 (rg_b rfl : Rg (0) (0) (0 : Int32))
        obtain ⟨r_3, e_r_3, q_r_3⟩ := thR T r_x1 (k := 13) (i := 0) (k2 := 62) rfl (by decide)
        refine s_ref e_r_3 ?_
        refine s_gd (by rw [thN T q_r_3 (k := 62) (n := 64) rfl (by decide)]; exact rg_inB (i_f_4 : Rg (0) (63) (x4)) (by decide)) ?_
        obtain ⟨r_5, e_r_5, q_r_5⟩ := thR T r_x2 (k := 13) (i := 0) (k2 := 62) rfl (by decide)
        refine s_ref e_r_5 ?_
        refine s_gd (by rw [thN T q_r_5 (k := 62) (n := 64) rfl (by decide)]; exact rg_inB (i_f_4 : Rg (0) (63) (x4)) (by decide)) ?_
        refine s_br (fun c_9 => ?_) (fun c_9 => ?_)
        · have _ := c_9
          refine s_q (fun v_1q3 e_10 => ?_)
          have i_v_1q3 : Rg (1) (64) (v_1q3) := by rw [e_10]; exact (rg_add i_f_4 (rg_b rfl : Rg (1) (1) ((1 : Int32))) (by decide) : Rg (1) (64) (x4 + (1 : Int32)))
          have m_11 : (v_1q3).toInt = x4.toInt + 1 := by rw [e_10]; exact rg_inc i_f_4 (by decide)
          exact hk_62 o_x1 o_x2 nw_x1_2528 nw_x2_2528 T r_x0 r_x1 r_x2 (rg_m (rg_b rfl : Rg (1) (1) ((1 : Int32))) (by decide)) (rg_m i_v_1q3 (by decide)) sq pe pf (by have := hc_62; omega)
        · have _ := c_9
          refine s_q (fun v_1q4 e_12 => ?_)
          have i_v_1q4 : Rg (1) (64) (v_1q4) := by rw [e_12]; exact (rg_add i_f_4 (rg_b rfl : Rg (1) (1) ((1 : Int32))) (by decide) : Rg (1) (64) (x4 + (1 : Int32)))
          have m_13 : (v_1q4).toInt = x4.toInt + 1 := by rw [e_12]; exact rg_inc i_f_4 (by decide)
          exact hk_62 o_x1 o_x2 nw_x1_2528 nw_x2_2528 T r_x0 r_x1 r_x2 (rg_m (rg_b rfl : Rg (0) (0) ((0 : Int32))) (by decide)) (rg_m i_v_1q4 (by decide)) sq pe pf (by have := hc_62; omega)
set_option maxRecDepth 20000 in
theorem zX15_isSame {ρ : Nat → Nat} {c : Cm} {F : Nat} {w_x1 w_x2 : Nat} (hF : 700000 ≤ F) (hA : pmA c [(87, 999), (88, 999), (89, 999), (16, 23), (16, 24), (16, 29)]) (hi_2528 : pmO c 2528 [(62, 999), (63, 999), (64, 999), (65, 999), (13, 1), (13, 2), (13, 3), (13, 7)]) (hi_2531 : pmO c 2531 [(66, 999), (67, 999), (68, 999), (69, 999), (70, 999), (71, 999), (72, 999), (14, 0)]) {h : Hp} {x0 : Nat} {x1 : Nat} {x2 : Nat} (o_x1 : cw c x1 = w_x1) (o_x2 : cw c x2 = w_x2) (nw_x1_2528 : ¬ w_x1 = 2528) (nw_x2_2528 : ¬ w_x2 = 2528) (T : TH ρ c h) (r_x0 : ρ x0 = 16) (r_x1 : ρ x1 = 13) (r_x2 : ρ x2 = 13) (sq : (SqOk x0 h)) (pe : (PE x1 h)) (pf : (PE x2 h)) : Sat (sX15_isSame F h x0 x1 x2) (ZI ρ c (0) (1)) := by
  unfold sX15_isSame sX15_isSame_58 sX15_isSame_57
  refine s_br (fun c_1 => ?_) (fun c_1 => ?_)
  · have _ := c_1
    refine s_br (fun c_2 => ?_) (fun c_2 => ?_)
    · have _ := c_2
      obtain ⟨r_3, e_r_3, q_r_3⟩ := thR T r_x1 (k := 13) (i := 6) (k2 := 65) rfl (by decide)
      refine s_ref e_r_3 ?_
      refine s_gd (by rw [thN T q_r_3 (k := 65) (n := 2) rfl (by decide)]; exact rg_inB ((rg_m (rg_b rfl : Rg (0) (0) ((0 : Int32))) (by decide)) : Rg (0) (1) ((0 : Int32))) (by decide)) ?_
      obtain ⟨r_5, e_r_5, q_r_5⟩ := thR T r_x2 (k := 13) (i := 6) (k2 := 65) rfl (by decide)
      refine s_ref e_r_5 ?_
      refine s_gd (by rw [thN T q_r_5 (k := 65) (n := 2) rfl (by decide)]; exact rg_inB ((rg_m (rg_b rfl : Rg (0) (0) ((0 : Int32))) (by decide)) : Rg (0) (1) ((0 : Int32))) (by decide)) ?_
      refine s_br (fun c_3 => ?_) (fun c_3 => ?_)
      · have _ := c_3
        refine s_ref e_r_3 ?_
        refine s_gd (by rw [thN T q_r_3 (k := 65) (n := 2) rfl (by decide)]; exact rg_inB ((rg_m (rg_b rfl : Rg (1) (1) ((1 : Int32))) (by decide)) : Rg (0) (1) ((1 : Int32))) (by decide)) ?_
        refine s_ref e_r_5 ?_
        refine s_gd (by rw [thN T q_r_5 (k := 65) (n := 2) rfl (by decide)]; exact rg_inB ((rg_m (rg_b rfl : Rg (1) (1) ((1 : Int32))) (by decide)) : Rg (0) (1) ((1 : Int32))) (by decide)) ?_
        refine s_br (fun c_4 => ?_) (fun c_4 => ?_)
        · have _ := c_4
          have m_5 : Rg (0) (64) ((0 : Int32)) := (rg_m (rg_b rfl : Rg (0) (0) ((0 : Int32))) (by decide))
          exact zX15_isSame_62 hF (pmA_s hA rfl) (pmO_s hi_2528 rfl) (pmO_s hi_2531 rfl) F o_x1 o_x2 nw_x1_2528 nw_x2_2528 T r_x0 r_x1 r_x2 (rg_m (rg_b rfl : Rg (1) (1) ((1 : Int32))) (by decide)) (rg_m (rg_b rfl : Rg (0) (0) ((0 : Int32))) (by decide)) sq pe pf (by have := m_5.1; have := m_5.2; omega)
        · have _ := c_4
          have m_6 : Rg (0) (64) ((0 : Int32)) := (rg_m (rg_b rfl : Rg (0) (0) ((0 : Int32))) (by decide))
          exact zX15_isSame_62 hF (pmA_s hA rfl) (pmO_s hi_2528 rfl) (pmO_s hi_2531 rfl) F o_x1 o_x2 nw_x1_2528 nw_x2_2528 T r_x0 r_x1 r_x2 (rg_m (rg_b rfl : Rg (0) (0) ((0 : Int32))) (by decide)) (rg_m (rg_b rfl : Rg (0) (0) ((0 : Int32))) (by decide)) sq pe pf (by have := m_6.1; have := m_6.2; omega)
      · have _ := c_3
        have m_7 : Rg (0) (64) ((0 : Int32)) := (rg_m (rg_b rfl : Rg (0) (0) ((0 : Int32))) (by decide))
        exact zX15_isSame_62 hF (pmA_s hA rfl) (pmO_s hi_2528 rfl) (pmO_s hi_2531 rfl) F o_x1 o_x2 nw_x1_2528 nw_x2_2528 T r_x0 r_x1 r_x2 (rg_m (rg_b rfl : Rg (0) (0) ((0 : Int32))) (by decide)) (rg_m (rg_b rfl : Rg (0) (0) ((0 : Int32))) (by decide)) sq pe pf (by have := m_7.1; have := m_7.2; omega)
    · have _ := c_2
      have m_8 : Rg (0) (64) ((0 : Int32)) := (rg_m (rg_b rfl : Rg (0) (0) ((0 : Int32))) (by decide))
      exact zX15_isSame_62 hF (pmA_s hA rfl) (pmO_s hi_2528 rfl) (pmO_s hi_2531 rfl) F o_x1 o_x2 nw_x1_2528 nw_x2_2528 T r_x0 r_x1 r_x2 (rg_m (rg_b rfl : Rg (0) (0) ((0 : Int32))) (by decide)) (rg_m (rg_b rfl : Rg (0) (0) ((0 : Int32))) (by decide)) sq pe pf (by have := m_8.1; have := m_8.2; omega)
  · have _ := c_1
    have m_9 : Rg (0) (64) ((0 : Int32)) := (rg_m (rg_b rfl : Rg (0) (0) ((0 : Int32))) (by decide))
    exact zX15_isSame_62 hF (pmA_s hA rfl) (pmO_s hi_2528 rfl) (pmO_s hi_2531 rfl) F o_x1 o_x2 nw_x1_2528 nw_x2_2528 T r_x0 r_x1 r_x2 (rg_m (rg_b rfl : Rg (0) (0) ((0 : Int32))) (by decide)) (rg_m (rg_b rfl : Rg (0) (0) ((0 : Int32))) (by decide)) sq pe pf (by have := m_9.1; have := m_9.2; omega)
set_option maxRecDepth 20000 in
theorem zX15_moves {ρ : Nat → Nat} {c : Cm} {F : Nat} (hF : 700000 ≤ F) (hA : pmA c [(87, 999), (88, 999), (89, 999), (16, 23), (16, 24), (16, 29)]) (hi_2528 : pmO c 2528 [(62, 999), (63, 999), (64, 999), (65, 999), (13, 1), (13, 2), (13, 3), (13, 7)]) (hi_2530 : pmO c 2530 [(66, 999), (67, 999), (68, 999), (69, 999), (70, 999), (71, 999), (72, 999), (14, 0)]) {h : Hp} {x0 : Nat} {x1 : Int32} (T : TH ρ c h) (r_x0 : ρ x0 = 16) (i_x1 : Rg (-2147483648) (2147483647) (x1)) (bd : (BdP x0 h)) (sq : (SqOk x0 h)) : Sat (sX15_moves F h x0 x1) (ZQ (ZI ρ c (-102) (3000)) (fun o => (o.1.toInt = -102 ∨ (0 ≤ x1.toInt ∧ x1.toInt ≤ 59)) ∧ ((¬ o.1.toInt = -102) → MvP x0 x1 o.2))) := by
  unfold sX15_moves 
  refine s_dP0 (zX15_has hF T r_x0 i_x1) (fun o_1 eb_o_1 e_o_1 i_o_1 p_o_1 => ?_)
  have T_1 := th_eq e_o_1 T
  refine s_br (fun c_2 => ?_) (fun c_2 => ?_)
  · have _ := c_2
    have i_f_3 : Rg (0) (0) (o_1.1) := rg_eq c_2 (rg_b rfl : Rg (0) (0) (0 : Int32))
    exact s_some ⟨⟨(T_1), (rg_m (rg_b rfl : Rg (-102) (-102) ((- 102 : Int32))) (by decide))⟩, ⟨(show ((- 102 : Int32)).toInt = -102 ∨ (0 ≤ x1.toInt ∧ x1.toInt ≤ 59) from (by have : ((- 102 : Int32)).toInt = -102 := rfl; have := (i_x1 : Rg (-2147483648) (2147483647) (x1)).1; have := (i_x1 : Rg (-2147483648) (2147483647) (x1)).2; have : (o_1.1).toInt = 0 ∨ (0 ≤ (x1).toInt ∧ (x1).toInt ≤ 59) := p1_or p_o_1; have := (i_f_3 : Rg (0) (0) (o_1.1)).1; have := (i_f_3 : Rg (0) (0) (o_1.1)).2; have := eq_i c_2; have : (0 : Int32).toInt = 0 := rfl; omega)), (fun q => absurd q (show ¬ (¬ ((- 102 : Int32)).toInt = -102) from (by have : ((- 102 : Int32)).toInt = -102 := rfl; omega)))⟩⟩
  · have _ := c_2
    have i_f_4 : Rg (1) (1) (o_1.1) := rg_nlo c_2 i_o_1 (rg_b rfl : Rg (0) (0) (0 : Int32))
    have p_f_5 := p_o_1 c_2
    obtain ⟨r_3, e_r_3, q_r_3⟩ := thR T_1 r_x0 (k := 16) (i := 14) (k2 := 84) rfl (by decide)
    refine s_ref e_r_3 ?_
    refine s_gd (by rw [thN T_1 q_r_3 (k := 84) (n := 60) rfl (by decide)]; exact rg_inB (p_f_5 : Rg (0) (59) (x1)) (by decide)) ?_
    have pf_6 : HasB x0 x1 o_1.2 := (by rw [e_o_1]; exact (hb_of T r_x0 bd eb_o_1 c_2))
    obtain ⟨r_5, e_r_5, pe_r_5⟩ := pf_6 _ e_r_3
    have q_r_5 := thRn T_1 q_r_3 (k := 84) (k2 := 13) rfl (by decide) e_r_5
    refine s_ref e_r_5 ?_
    obtain ⟨r_6, e_r_6, q_r_6⟩ := thR T_1 r_x0 (k := 16) (i := 30) (k2 := 14) rfl (by decide)
    refine s_ref e_r_6 ?_
    have pf_7 : SqOk x0 o_1.2 := (by rw [e_o_1]; exact sq)
    refine s_cVfq (S := fS [(87, 999), (88, 999), (89, 999), (16, 23), (16, 24), (16, 29)] [(2528, [(62, 999), (63, 999), (64, 999), (65, 999), (13, 1), (13, 2), (13, 3), (13, 7)]), (2530, [(66, 999), (67, 999), (68, 999), (69, 999), (70, 999), (71, 999), (72, 999), (14, 0)])]) T_1 (fs_sub (pmA_s hA rfl) (fs_c (pmO_s hi_2528 rfl) (fs_c (pmO_s hi_2530 rfl) fs_n))) (zX15_legal hF fs_a (fs_o (.head _)) (fs_o (.tail _ (.head _))) (th_id T_1 q_r_3 (k := 84) (w := 3400) e_r_5 rfl (by decide)) (th_id T_1 r_x0 (k := 16) (i := 30) (w := 2530) e_r_6 rfl (by decide)) (by decide) (th_in _ T_1) r_x0 q_r_5 q_r_6 pf_7 pe_r_5) (fun o_7 T_8 f_o_7 p_o_7 => ?_)
    refine s_ref (hr_q (fr_R f_o_7 r_x0 (by decide) rfl rfl) e_r_6) ?_
    have pf_9 : PE r_5 o_7 := (pe_fr T_1 q_r_5 f_o_7 rfl (by rw [(th_id T_1 q_r_3 (k := 84) (w := 3400) e_r_5 rfl (by decide))]; rfl) rfl (by rw [(th_id T_1 q_r_3 (k := 84) (w := 3400) e_r_5 rfl (by decide))]; intro _; rfl) (by rw [(th_id T_1 q_r_3 (k := 84) (w := 3400) e_r_5 rfl (by decide))]; intro _; rfl) pe_r_5)
    exact s_some ⟨⟨(T_8), (rg_m (thI T_8 q_r_6 (k := 14) (i := 0) rfl : Rg (0) (3000) (hI o_7 r_6 0)) (by decide))⟩, ⟨(show (hI o_7 r_6 0).toInt = -102 ∨ (0 ≤ x1.toInt ∧ x1.toInt ≤ 59) from (by have hq_ := ((thI T_8 q_r_6 (k := 14) (i := 0) rfl : Rg (0) (3000) (hI o_7 r_6 0)) : Rg (0) (3000) (hI o_7 r_6 0)); have := hq_.1; have := hq_.2; have hq_ := ((thI T_8 q_r_6 (k := 14) (i := 0) rfl : Rg (0) (3000) ((hI o_7 r_6 0))) : Rg (0) (3000) ((hI o_7 r_6 0))); have := hq_.1; have := hq_.2; have := (p_f_5 : Rg (0) (59) (x1)).1; have := (p_f_5 : Rg (0) (59) (x1)).2; omega)), (fun _ => (mp_of (hr_q (fr_R f_o_7 r_x0 (by decide) rfl rfl) e_r_3) (hr_q (fr_R f_o_7 q_r_3 (by decide) rfl rfl) e_r_5) (hr_q (fr_R f_o_7 r_x0 (by decide) rfl rfl) e_r_6) pf_9 p_o_7))⟩⟩
set_option maxRecDepth 20000 in
theorem zX15_byteAt {ρ : Nat → Nat} {c : Cm} {F : Nat} (hF : 700000 ≤ F) {h : Hp} {x0 : Nat} {x1 : Nat} {x2 : Int32} {x3 : Int32} (T : TH ρ c h) (r_x0 : ρ x0 = 16) (r_x1 : ρ x1 = 82) (i_x2 : Rg (0) (1200) (x2)) (i_x3 : Rg (0) (1201) (x3)) : Sat (sX15_byteAt h x0 x1 x2 x3) (ZQ (ZP0 h (-128) (127) (-1) (Rg (0) (1199) (x3))) (fun o => (x3.toInt < x2.toInt → o.1.toInt = (hI h x1 x3.toNatClampNeg).toInt) ∧ (x2.toInt ≤ x3.toInt → o.1.toInt = -1))) := by
  unfold sX15_byteAt sX15_byteAt_12
  refine s_br (fun c_1 => ?_) (fun c_1 => ?_)
  · have _ := c_1
    exact s_some ⟨⟨rfl, (rg_m (rg_b rfl : Rg (-1) (-1) ((- 1 : Int32))) (by decide)), (fun q => absurd (rz_s (rg_b rfl : Rg (-1) (-1) ((- 1 : Int32))) (rg_b rfl : Rg (-1) (-1) (-1 : Int32))) q)⟩, ⟨(show x3.toInt < x2.toInt → ((- 1 : Int32)).toInt = (hI h x1 x3.toNatClampNeg).toInt from (by have : ((- 1 : Int32)).toInt = -1 := rfl; have hq_ := ((thI T r_x1 (k := 82) rfl : Rg (-128) (127) ((hI h x1 x3.toNatClampNeg))) : Rg (-128) (127) ((hI h x1 x3.toNatClampNeg))); have := hq_.1; have := hq_.2; have := (i_x2 : Rg (0) (1200) (x2)).1; have := (i_x2 : Rg (0) (1200) (x2)).2; have := (i_x3 : Rg (0) (1201) (x3)).1; have := (i_x3 : Rg (0) (1201) (x3)).2; have := le_i c_1; omega)), (show x2.toInt ≤ x3.toInt → ((- 1 : Int32)).toInt = -1 from (by have : ((- 1 : Int32)).toInt = -1 := rfl; have := (i_x2 : Rg (0) (1200) (x2)).1; have := (i_x2 : Rg (0) (1200) (x2)).2; have := (i_x3 : Rg (0) (1201) (x3)).1; have := (i_x3 : Rg (0) (1201) (x3)).2; have := le_i c_1; omega))⟩⟩
  · have _ := c_1
    have i_f_2 : Rg (0) (1199) (x3) := rg_lt1 (nle_lt c_1) i_x3 i_x2
    have i_f_3 : Rg (1) (1200) (x2) := rg_lt2 (nle_lt c_1) i_x3 i_x2
    refine s_gd (by rw [thN T r_x1 (k := 82) (n := 1220) rfl (by decide)]; exact rg_inB ((rg_m i_f_2 (by decide)) : Rg (0) (1219) (x3)) (by decide)) ?_
    exact s_some ⟨⟨rfl, (thI T r_x1 (k := 82) rfl : Rg (-128) (127) ((hI h x1 x3.toNatClampNeg))), (fun _ => i_f_2)⟩, ⟨(show x3.toInt < x2.toInt → ((hI h x1 x3.toNatClampNeg)).toInt = (hI h x1 x3.toNatClampNeg).toInt from (by have hq_ := ((thI T r_x1 (k := 82) rfl : Rg (-128) (127) ((hI h x1 x3.toNatClampNeg))) : Rg (-128) (127) ((hI h x1 x3.toNatClampNeg))); have := hq_.1; have := hq_.2; have := (i_f_3 : Rg (1) (1200) (x2)).1; have := (i_f_3 : Rg (1) (1200) (x2)).2; have := (i_f_2 : Rg (0) (1199) (x3)).1; have := (i_f_2 : Rg (0) (1199) (x3)).2; have := nle_i c_1; omega)), (show x2.toInt ≤ x3.toInt → ((hI h x1 x3.toNatClampNeg)).toInt = -1 from (by have hq_ := ((thI T r_x1 (k := 82) rfl : Rg (-128) (127) ((hI h x1 x3.toNatClampNeg))) : Rg (-128) (127) ((hI h x1 x3.toNatClampNeg))); have := hq_.1; have := hq_.2; have := (i_f_3 : Rg (1) (1200) (x2)).1; have := (i_f_3 : Rg (1) (1200) (x2)).2; have := (i_f_2 : Rg (0) (1199) (x3)).1; have := (i_f_2 : Rg (0) (1199) (x3)).2; have := nle_i c_1; omega))⟩⟩
set_option maxRecDepth 20000 in
theorem zX15_drop {ρ : Nat → Nat} {c : Cm} {F : Nat} (hF : 700000 ≤ F) (hA : pmA c [(85, 999)]) {h : Hp} {x0 : Nat} {x1 : Int32} (T : TH ρ c h) (r_x0 : ρ x0 = 16) (i_x1 : Rg (-2147483648) (2147483647) (x1)) : Sat (sX15_drop h x0 x1) (ZI ρ c (-102) (1)) := by
  unfold sX15_drop 
  refine s_dP0 (zX15_has hF T r_x0 i_x1) (fun o_1 eb_o_1 e_o_1 i_o_1 p_o_1 => ?_)
  have T_1 := th_eq e_o_1 T
  refine s_br (fun c_2 => ?_) (fun c_2 => ?_)
  · have _ := c_2
    have i_f_3 : Rg (0) (0) (o_1.1) := rg_eq c_2 (rg_b rfl : Rg (0) (0) (0 : Int32))
    exact s_some ⟨(T_1), (rg_m (rg_b rfl : Rg (-102) (-102) ((- 102 : Int32))) (by decide))⟩
  · have _ := c_2
    have i_f_4 : Rg (1) (1) (o_1.1) := rg_nlo c_2 i_o_1 (rg_b rfl : Rg (0) (0) (0 : Int32))
    have p_f_5 := p_o_1 c_2
    obtain ⟨r_3, e_r_3, q_r_3⟩ := thR T_1 r_x0 (k := 16) (i := 15) (k2 := 85) rfl (by decide)
    refine s_ref e_r_3 ?_
    refine s_gd (by rw [thN T_1 q_r_3 (k := 85) (n := 60) rfl (by decide)]; exact rg_inB (p_f_5 : Rg (0) (59) (x1)) (by decide)) ?_
    refine s_hq (th_wI T_1 q_r_3 (k := 85) (lo := (-2147483648)) (hi := (2147483647)) rfl ((rg_m (rg_b rfl : Rg (0) (0) ((0 : Int32))) (by decide)) : Rg (-2147483648) (2147483647) ((0 : Int32))) (by decide) (by decide) (pm_a hA rfl)) (fun h_5 T_6 w_7 => ?_)
    exact s_some ⟨(T_6), (rg_m (rg_b rfl : Rg (1) (1) ((1 : Int32))) (by decide))⟩
set_option maxRecDepth 20000 in
theorem zX15_end {ρ : Nat → Nat} {c : Cm} {F : Nat} (hF : 700000 ≤ F) (hA : pmA c [(16, 1)]) {h : Hp} {x0 : Nat} {x1 : Int32} (T : TH ρ c h) (r_x0 : ρ x0 = 16) (i_x1 : Rg (-2147483648) (2147483647) (x1)) : Sat (sX15_end h x0 x1) (ZI ρ c (-101) (1200)) := by
  unfold sX15_end sX15_end_12
  refine s_br (fun c_1 => ?_) (fun c_1 => ?_)
  · have _ := c_1
    have i_f_2 : Rg (-2147483648) (-1) (x1) := rg_lt1 c_1 i_x1 (rg_b rfl : Rg (0) (0) (0 : Int32))
    exact s_some ⟨(T), (rg_m (rg_b rfl : Rg (-101) (-101) ((- 101 : Int32))) (by decide))⟩
  · have _ := c_1
    have i_f_3 : Rg (0) (2147483647) (x1) := rg_le2 (nlt_le c_1) (rg_b rfl : Rg (0) (0) (0 : Int32)) i_x1
    refine s_br (fun c_4 => ?_) (fun c_4 => ?_)
    · have _ := c_4
      have i_f_5 : Rg (0) (1200) (x1) := rg_le1 c_4 i_f_3 (thI T r_x0 (k := 16) (i := 1) rfl : Rg (0) (1200) ((hI h x0 1)))
      refine s_hq (th_wI T r_x0 (k := 16) (lo := (0)) (hi := (1200)) rfl (i_f_5 : Rg (0) (1200) (x1)) (by decide) (by decide) (pm_a hA rfl)) (fun h_3 T_6 w_7 => ?_)
      exact s_some ⟨(T_6), (rg_m i_f_5 (by decide))⟩
    · have _ := c_4
      have i_f_8 : Rg (1) (2147483647) (x1) := rg_lt2 (nle_lt c_4) (thI T r_x0 (k := 16) (i := 1) rfl : Rg (0) (1200) ((hI h x0 1))) i_f_3
      exact s_some ⟨(T), (rg_m (rg_b rfl : Rg (-101) (-101) ((- 101 : Int32))) (by decide))⟩
set_option maxRecDepth 20000 in
theorem zX15_ended {ρ : Nat → Nat} {c : Cm} {F : Nat} (hF : 700000 ≤ F) (hA : pmA c [(87, 999), (88, 999), (89, 999), (16, 23), (16, 24), (16, 29)]) (hi_2528 : pmO c 2528 [(62, 999), (63, 999), (64, 999), (65, 999), (13, 1), (13, 2), (13, 3), (13, 7)]) (hi_2530 : pmO c 2530 [(66, 999), (67, 999), (68, 999), (69, 999), (70, 999), (71, 999), (72, 999), (14, 0)]) {h : Hp} {x0 : Nat} {x1 : Int32} (T : TH ρ c h) (r_x0 : ρ x0 = 16) (i_x1 : Rg (-2147483648) (2147483647) (x1)) (bd : (BdP x0 h)) (sq : (SqOk x0 h)) : Sat (sX15_ended F h x0 x1) (ZI ρ c (-102) (6)) := by
  unfold sX15_ended sX15_ended_32
  refine s_cIq (zX15_moves hF (pmA_s hA rfl) (pmO_s hi_2528 rfl) (pmO_s hi_2530 rfl) T r_x0 i_x1 bd sq) (fun o_1 T_1 i_o_1 p_o_1 => ?_)
  have pq_o_1_0 : o_1.1.toInt = -102 ∨ (0 ≤ (x1).toInt ∧ (x1).toInt ≤ 59) := p_o_1.1
  refine s_br (fun c_2 => ?_) (fun c_2 => ?_)
  · have _ := c_2
    have i_f_3 : Rg (-102) (-102) (o_1.1) := rg_eq c_2 (rg_b rfl : Rg (-102) (-102) ((- 102 : Int32)))
    exact s_some ⟨(T_1), (rg_m (rg_b rfl : Rg (-102) (-102) ((- 102 : Int32))) (by decide))⟩
  · have _ := c_2
    have i_f_4 : Rg (-101) (3000) (o_1.1) := rg_nlo c_2 i_o_1 (rg_b rfl : Rg (-102) (-102) ((- 102 : Int32)))
    obtain ⟨r_3, e_r_3, q_r_3⟩ := thR T_1 r_x0 (k := 16) (i := 14) (k2 := 84) rfl (by decide)
    refine s_ref e_r_3 ?_
    have og_5 : Rg (0) (59) (x1) := ⟨(by have := (i_x1 : Rg (-2147483648) (2147483647) (x1)).1; have := (i_x1 : Rg (-2147483648) (2147483647) (x1)).2; have := (i_f_4 : Rg (-101) (3000) (o_1.1)).1; have := (i_f_4 : Rg (-101) (3000) (o_1.1)).2; have := ne_i c_2; have : ((- 102 : Int32)).toInt = -102 := rfl; omega), (by have := (i_x1 : Rg (-2147483648) (2147483647) (x1)).1; have := (i_x1 : Rg (-2147483648) (2147483647) (x1)).2; have := (i_f_4 : Rg (-101) (3000) (o_1.1)).1; have := (i_f_4 : Rg (-101) (3000) (o_1.1)).2; have := ne_i c_2; have : ((- 102 : Int32)).toInt = -102 := rfl; omega)⟩
    refine s_gd (by rw [thN T_1 q_r_3 (k := 84) (n := 60) rfl (by decide)]; exact rg_inB (og_5 : Rg (0) (59) (x1)) (by decide)) ?_
    obtain ⟨r_5, e_r_5, pe_r_5⟩ := (mp_hb (p_o_1.2 (show ¬ o_1.1.toInt = -102 from (by have := (i_f_4 : Rg (-101) (3000) (o_1.1)).1; have := (i_f_4 : Rg (-101) (3000) (o_1.1)).2; have := (og_5 : Rg (0) (59) (x1)).1; have := (og_5 : Rg (0) (59) (x1)).2; have := ne_i c_2; have : ((- 102 : Int32)).toInt = -102 := rfl; omega)))) _ e_r_3
    have q_r_5 := thRn T_1 q_r_3 (k := 84) (k2 := 13) rfl (by decide) e_r_5
    refine s_ref e_r_5 ?_
    obtain ⟨r_6, e_r_6, q_r_6⟩ := thR T_1 r_x0 (k := 16) (i := 30) (k2 := 14) rfl (by decide)
    refine s_ref e_r_6 ?_
    refine s_cI (zX15_endedBy hF (pmA_s hA rfl) (th_id T_1 q_r_3 (k := 84) (w := 3400) e_r_5 rfl (by decide)) T_1 r_x0 q_r_5 (thI T_1 q_r_6 (k := 14) (i := 0) rfl : Rg (0) (3000) ((hI o_1.2 r_6 0)))) (fun o_7 T_6 i_o_7 => ?_)
    exact s_some ⟨(T_6), (rg_m i_o_7 (by decide))⟩
set_option maxRecDepth 20000 in
theorem zX15_feed_72 {ρ : Nat → Nat} {c : Cm} {F : Nat} (hF : 700000 ≤ F) {k_19 : Hp → Nat → Int32 → Int32 → Int32 → Int32 → Int32 → Int32 → Option (Int32 × Hp)} {C_19 : Int} (hk_19 : ∀ {h : Hp} {x0 : Nat} {x1 : Int32} {x2 : Int32} {x3 : Int32} {x4 : Int32} {x5 : Int32} {x6 : Int32}, TH ρ c h → ρ x0 = 16 → Rg (-2147483648) (2147483647) (x1) → Rg (-2147483648) (2147483647) (x2) → Rg (-2147483648) (2147483647) (x3) → Rg (-2147483648) (2147483647) (x4) → Rg (-2147483648) (2147483647) (x5) → Rg (0) (20) (x6) → ((hI h x0 1).toInt ≤ 1180 + x6.toInt) → C_19 < x6.toInt → Sat (k_19 h x0 x1 x2 x3 x4 x5 x6) (ZI ρ c (-104) (1200))) (hA : pmA c [(82, 999), (16, 1)]) {h : Hp} {x0 : Nat} {x1 : Int32} {x2 : Int32} {x3 : Int32} {x4 : Int32} {x5 : Int32} {x6 : Int32} {t0 : Int32} (T : TH ρ c h) (r_x0 : ρ x0 = 16) (i_x1 : Rg (-2147483648) (2147483647) (x1)) (i_x2 : Rg (-2147483648) (2147483647) (x2)) (i_x3 : Rg (-2147483648) (2147483647) (x3)) (i_x4 : Rg (-2147483648) (2147483647) (x4)) (i_x5 : Rg (-2147483648) (2147483647) (x5)) (i_x6 : Rg (0) (19) (x6)) (i_t0 : Rg (-2147483648) (2147483647) (t0)) (hc_19 : C_19 ≤ x6.toInt) (fb : ((hI h x0 1).toInt ≤ 1180 + x6.toInt)) : Sat (sX15_feed_72 F k_19 h x0 x1 x2 x3 x4 x5 x6 t0) (ZI ρ c (-104) (1200)) := by
  unfold sX15_feed_72 
  obtain ⟨r_1, e_r_1, q_r_1⟩ := thR T r_x0 (k := 16) (i := 0) (k2 := 82) rfl (by decide)
  refine s_ref e_r_1 ?_
  refine s_gd (by rw [thN T q_r_1 (k := 82) (n := 1220) rfl (by decide)]; exact rg_inB ((rg_m (thI T r_x0 (k := 16) (i := 1) rfl : Rg (0) (1200) ((hI h x0 1))) (by decide)) : Rg (0) (1219) ((hI h x0 1))) (by decide)) ?_
  refine s_hq (th_wI T q_r_1 (k := 82) (lo := (-128)) (hi := (127)) rfl ((rg_narb (rg_y _ : Rg (-128) (127) (((t0 >>> (((24 : Int32) - ((8 : Int32) * (x6 &&& (3 : Int32)))) &&& 31)).toInt8.toInt32))) (by decide) : Rg (-128) (127) ((vp_nar .byte ((t0 >>> (((24 : Int32) - ((8 : Int32) * (x6 &&& (3 : Int32)))) &&& 31)).toInt8.toInt32)))) : Rg (-128) (127) ((vp_nar .byte ((t0 >>> (((24 : Int32) - ((8 : Int32) * (x6 &&& (3 : Int32)))) &&& 31)).toInt8.toInt32)))) (by decide) (by decide) (pm_a hA rfl)) (fun h_3 T_1 w_2 => ?_)
  have og_5 : Rg (0) (1200) (((hI h_3 x0 1) + (1 : Int32))) := ⟨(by have : (((hI h_3 x0 1) + (1 : Int32)) : Int32).toInt = ((hI h_3 x0 1) : Int32).toInt + ((1 : Int32) : Int32).toInt := ti_add ((thI T_1 r_x0 (k := 16) (i := 1) rfl : Rg (0) (1200) ((hI h_3 x0 1))) : Rg (0) (1200) ((hI h_3 x0 1))) ((rg_b rfl : Rg (1) (1) ((1 : Int32))) : Rg (1) (1) ((1 : Int32))) (by decide); have hq_ := ((thI T_1 r_x0 (k := 16) (i := 1) rfl : Rg (0) (1200) ((hI h_3 x0 1))) : Rg (0) (1200) ((hI h_3 x0 1))); have := hq_.1; have := hq_.2; have : (hI h_3 x0 1).toInt = (hI h x0 1).toInt := congrArg Int32.toInt (he_w w_2 (ne_r r_x0 q_r_1 (by decide))); have : ((1 : Int32)).toInt = 1 := rfl; have hq_ := ((thI T r_x0 (k := 16) (i := 1) rfl : Rg (0) (1200) ((hI h x0 1))) : Rg (0) (1200) ((hI h x0 1))); have := hq_.1; have := hq_.2; have := (i_x6 : Rg (0) (19) (x6)).1; have := (i_x6 : Rg (0) (19) (x6)).2; omega), (by have : (((hI h_3 x0 1) + (1 : Int32)) : Int32).toInt = ((hI h_3 x0 1) : Int32).toInt + ((1 : Int32) : Int32).toInt := ti_add ((thI T_1 r_x0 (k := 16) (i := 1) rfl : Rg (0) (1200) ((hI h_3 x0 1))) : Rg (0) (1200) ((hI h_3 x0 1))) ((rg_b rfl : Rg (1) (1) ((1 : Int32))) : Rg (1) (1) ((1 : Int32))) (by decide); have hq_ := ((thI T_1 r_x0 (k := 16) (i := 1) rfl : Rg (0) (1200) ((hI h_3 x0 1))) : Rg (0) (1200) ((hI h_3 x0 1))); have := hq_.1; have := hq_.2; have : (hI h_3 x0 1).toInt = (hI h x0 1).toInt := congrArg Int32.toInt (he_w w_2 (ne_r r_x0 q_r_1 (by decide))); have : ((1 : Int32)).toInt = 1 := rfl; have hq_ := ((thI T r_x0 (k := 16) (i := 1) rfl : Rg (0) (1200) ((hI h x0 1))) : Rg (0) (1200) ((hI h x0 1))); have := hq_.1; have := hq_.2; have := (i_x6 : Rg (0) (19) (x6)).1; have := (i_x6 : Rg (0) (19) (x6)).2; omega)⟩
  refine s_hq (th_wI T_1 r_x0 (k := 16) (lo := (0)) (hi := (1200)) rfl (og_5 : Rg (0) (1200) (((hI h_3 x0 1) + (1 : Int32)))) (by decide) (by decide) (pm_a hA rfl)) (fun h_4 T_3 w_4 => ?_)
  refine s_q (fun v_5 e_6 => ?_)
  have i_v_5 : Rg (1) (20) (v_5) := by rw [e_6]; exact (rg_add i_x6 (rg_b rfl : Rg (1) (1) ((1 : Int32))) (by decide) : Rg (1) (20) (x6 + (1 : Int32)))
  have m_7 : (v_5).toInt = x6.toInt + 1 := by rw [e_6]; exact rg_inc i_x6 (by decide)
  exact hk_19 T_3 r_x0 i_x1 i_x2 i_x3 i_x4 i_x5 (rg_m i_v_5 (by decide)) (show (hI h_4 x0 1).toInt ≤ 1180 + (v_5).toInt from (by have := (i_v_5 : Rg (1) (20) (v_5)).1; have := (i_v_5 : Rg (1) (20) (v_5)).2; have : (v_5).toInt = (x6 + (1 : Int32) : Int32).toInt := congrArg Int32.toInt e_6; have : (x6 + (1 : Int32) : Int32).toInt = (x6 : Int32).toInt + ((1 : Int32) : Int32).toInt := ti_add (i_x6 : Rg (0) (19) (x6)) ((rg_b rfl : Rg (1) (1) ((1 : Int32))) : Rg (1) (1) ((1 : Int32))) (by decide); have := (i_x6 : Rg (0) (19) (x6)).1; have := (i_x6 : Rg (0) (19) (x6)).2; have : ((1 : Int32)).toInt = 1 := rfl; have hq_ := ((thI T_3 r_x0 (k := 16) (i := 1) rfl : Rg (0) (1200) ((hI h_4 x0 1))) : Rg (0) (1200) ((hI h_4 x0 1))); have := hq_.1; have := hq_.2; have : (hI h_4 x0 1).toInt = (((hI h_3 x0 1) + (1 : Int32)) : Int32).toInt := congrArg Int32.toInt (he_s w_4); have : (((hI h_3 x0 1) + (1 : Int32)) : Int32).toInt = ((hI h_3 x0 1) : Int32).toInt + ((1 : Int32) : Int32).toInt := ti_add ((thI T_1 r_x0 (k := 16) (i := 1) rfl : Rg (0) (1200) ((hI h_3 x0 1))) : Rg (0) (1200) ((hI h_3 x0 1))) ((rg_b rfl : Rg (1) (1) ((1 : Int32))) : Rg (1) (1) ((1 : Int32))) (by decide); have hq_ := ((thI T_1 r_x0 (k := 16) (i := 1) rfl : Rg (0) (1200) ((hI h_3 x0 1))) : Rg (0) (1200) ((hI h_3 x0 1))); have := hq_.1; have := hq_.2; have : (hI h_3 x0 1).toInt = (hI h x0 1).toInt := congrArg Int32.toInt (he_w w_2 (ne_r r_x0 q_r_1 (by decide))); have hq_ := ((thI T r_x0 (k := 16) (i := 1) rfl : Rg (0) (1200) ((hI h x0 1))) : Rg (0) (1200) ((hI h x0 1))); have := hq_.1; have := hq_.2; omega)) (by have := hc_19; omega)
set_option maxRecDepth 20000 in
theorem zX15_feed_19 {ρ : Nat → Nat} {c : Cm} {F : Nat} (hF : 700000 ≤ F) (hA : pmA c [(82, 999), (16, 1)]) : ∀ (f : Nat) {h : Hp} {x0 : Nat} {x1 : Int32} {x2 : Int32} {x3 : Int32} {x4 : Int32} {x5 : Int32} {x6 : Int32}, TH ρ c h → ρ x0 = 16 → Rg (-2147483648) (2147483647) (x1) → Rg (-2147483648) (2147483647) (x2) → Rg (-2147483648) (2147483647) (x3) → Rg (-2147483648) (2147483647) (x4) → Rg (-2147483648) (2147483647) (x5) → Rg (0) (20) (x6) → ((hI h x0 1).toInt ≤ 1180 + x6.toInt) → (20 - x6.toInt).toNat < f → Sat (sX15_feed_19 F f h x0 x1 x2 x3 x4 x5 x6) (ZI ρ c (-104) (1200)) := by
  intro f
  induction f with
  | zero => intros; omega
  | succ f ih =>
    intro h x0 x1 x2 x3 x4 x5 x6 T r_x0 i_x1 i_x2 i_x3 i_x4 i_x5 i_x6 fb hm
    rw [sX15_feed_19]
    obtain ⟨C_19, hC_19⟩ : ∃ C : Int, C = x6.toInt := ⟨_, rfl⟩
    have hk_19 : ∀ {h : Hp} {x0 : Nat} {x1 : Int32} {x2 : Int32} {x3 : Int32} {x4 : Int32} {x5 : Int32} {x6 : Int32}, TH ρ c h → ρ x0 = 16 → Rg (-2147483648) (2147483647) (x1) → Rg (-2147483648) (2147483647) (x2) → Rg (-2147483648) (2147483647) (x3) → Rg (-2147483648) (2147483647) (x4) → Rg (-2147483648) (2147483647) (x5) → Rg (0) (20) (x6) → ((hI h x0 1).toInt ≤ 1180 + x6.toInt) → C_19 < x6.toInt → Sat (sX15_feed_19 F f h x0 x1 x2 x3 x4 x5 x6) (ZI ρ c (-104) (1200)) := by
      intro h' x0' x1' x2' x3' x4' x5' x6' T' r_x0' i_x1' i_x2' i_x3' i_x4' i_x5' i_x6' fb' hl
      exact ih T' r_x0' i_x1' i_x2' i_x3' i_x4' i_x5' i_x6' fb' (by have := i_x6'.1; have := i_x6'.2; omega)
    have hc_19 : C_19 ≤ x6.toInt := by omega
    refine s_br (fun c_1 => ?_) (fun c_1 => ?_)
    · have _ := c_1
      have i_f_2 : Rg (20) (20) (x6) := rg_le2 c_1 (rg_b rfl : Rg (20) (20) ((20 : Int32))) i_x6
      exact s_some ⟨(T), (rg_m (thI T r_x0 (k := 16) (i := 1) rfl : Rg (0) (1200) (hI h x0 1)) (by decide))⟩
    · have _ := c_1
      have i_f_3 : Rg (0) (19) (x6) := rg_lt1 (nle_lt c_1) i_x6 (rg_b rfl : Rg (20) (20) ((20 : Int32)))
      refine s_br (fun c_4 => ?_) (fun c_4 => ?_)
      · have _ := c_4
        have i_f_5 : Rg (4) (19) (x6) := rg_le2 c_4 (rg_b rfl : Rg (4) (4) ((4 : Int32))) i_f_3
        refine s_br (fun c_6 => ?_) (fun c_6 => ?_)
        · have _ := c_6
          have i_f_7 : Rg (8) (19) (x6) := rg_le2 c_6 (rg_b rfl : Rg (8) (8) ((8 : Int32))) i_f_5
          refine s_br (fun c_8 => ?_) (fun c_8 => ?_)
          · have _ := c_8
            have i_f_9 : Rg (12) (19) (x6) := rg_le2 c_8 (rg_b rfl : Rg (12) (12) ((12 : Int32))) i_f_7
            refine s_br (fun c_10 => ?_) (fun c_10 => ?_)
            · have _ := c_10
              have i_f_11 : Rg (16) (19) (x6) := rg_le2 c_10 (rg_b rfl : Rg (16) (16) ((16 : Int32))) i_f_9
              exact zX15_feed_72 hF @hk_19 (pmA_s hA rfl) T r_x0 i_x1 i_x2 i_x3 i_x4 i_x5 (rg_m i_f_11 (by decide)) i_x5 hc_19 fb
            · have _ := c_10
              have i_f_12 : Rg (12) (15) (x6) := rg_lt1 (nle_lt c_10) i_f_9 (rg_b rfl : Rg (16) (16) ((16 : Int32)))
              exact zX15_feed_72 hF @hk_19 (pmA_s hA rfl) T r_x0 i_x1 i_x2 i_x3 i_x4 i_x5 (rg_m i_f_12 (by decide)) i_x4 hc_19 fb
          · have _ := c_8
            have i_f_13 : Rg (8) (11) (x6) := rg_lt1 (nle_lt c_8) i_f_7 (rg_b rfl : Rg (12) (12) ((12 : Int32)))
            exact zX15_feed_72 hF @hk_19 (pmA_s hA rfl) T r_x0 i_x1 i_x2 i_x3 i_x4 i_x5 (rg_m i_f_13 (by decide)) i_x3 hc_19 fb
        · have _ := c_6
          have i_f_14 : Rg (4) (7) (x6) := rg_lt1 (nle_lt c_6) i_f_5 (rg_b rfl : Rg (8) (8) ((8 : Int32)))
          exact zX15_feed_72 hF @hk_19 (pmA_s hA rfl) T r_x0 i_x1 i_x2 i_x3 i_x4 i_x5 (rg_m i_f_14 (by decide)) i_x2 hc_19 fb
      · have _ := c_4
        have i_f_15 : Rg (0) (3) (x6) := rg_lt1 (nle_lt c_4) i_f_3 (rg_b rfl : Rg (4) (4) ((4 : Int32)))
        exact zX15_feed_72 hF @hk_19 (pmA_s hA rfl) T r_x0 i_x1 i_x2 i_x3 i_x4 i_x5 (rg_m i_f_15 (by decide)) i_x1 hc_19 fb
set_option maxRecDepth 20000 in
theorem zX15_feed {ρ : Nat → Nat} {c : Cm} {F : Nat} (hF : 700000 ≤ F) (hA : pmA c [(82, 999), (16, 1)]) {h : Hp} {x0 : Nat} {x1 : Int32} {x2 : Int32} {x3 : Int32} {x4 : Int32} {x5 : Int32} (T : TH ρ c h) (r_x0 : ρ x0 = 16) (i_x1 : Rg (-2147483648) (2147483647) (x1)) (i_x2 : Rg (-2147483648) (2147483647) (x2)) (i_x3 : Rg (-2147483648) (2147483647) (x3)) (i_x4 : Rg (-2147483648) (2147483647) (x4)) (i_x5 : Rg (-2147483648) (2147483647) (x5)) : Sat (sX15_feed F h x0 x1 x2 x3 x4 x5) (ZI ρ c (-104) (1200)) := by
  unfold sX15_feed 
  refine s_br (fun c_1 => ?_) (fun c_1 => ?_)
  · have _ := c_1
    have i_f_2 : Rg (20) (1200) (((hI h x0 1) + (20 : Int32))) := rg_le1 c_1 (rg_add (thI T r_x0 (k := 16) (i := 1) rfl : Rg (0) (1200) ((hI h x0 1))) (rg_b rfl : Rg (20) (20) ((20 : Int32))) (by decide) : Rg (20) (1220) (((hI h x0 1) + (20 : Int32)))) (rg_b rfl : Rg (1200) (1200) ((1200 : Int32)))
    have i_f_3 : Rg (0) (1180) ((hI h x0 1)) := rg_bka (i_f_2 : Rg (20) (1200) (((hI h x0 1) + (20 : Int32)))) (thI T r_x0 (k := 16) (i := 1) rfl : Rg (0) (1200) ((hI h x0 1))) (rg_b rfl : Rg (20) (20) ((20 : Int32))) (by decide)
    have m_4 : Rg (0) (20) ((0 : Int32)) := (rg_m (rg_b rfl : Rg (0) (0) ((0 : Int32))) (by decide))
    exact zX15_feed_19 hF (pmA_s hA rfl) F T r_x0 i_x1 i_x2 i_x3 i_x4 i_x5 (rg_m (rg_b rfl : Rg (0) (0) ((0 : Int32))) (by decide)) (show (hI h x0 1).toInt ≤ 1180 + ((0 : Int32)).toInt from (by have : ((0 : Int32)).toInt = 0 := rfl; have := (i_f_3 : Rg (0) (1180) ((hI h x0 1))).1; have := (i_f_3 : Rg (0) (1180) ((hI h x0 1))).2; have := le_i c_1; have : (((hI h x0 1) + (20 : Int32)) : Int32).toInt = ((hI h x0 1) : Int32).toInt + ((20 : Int32) : Int32).toInt := ti_add (i_f_3 : Rg (0) (1180) ((hI h x0 1))) ((rg_b rfl : Rg (20) (20) ((20 : Int32))) : Rg (20) (20) ((20 : Int32))) (by decide); have : ((20 : Int32)).toInt = 20 := rfl; have : ((1200 : Int32)).toInt = 1200 := rfl; omega)) (by have := m_4.1; have := m_4.2; omega)
  · have _ := c_1
    have i_f_5 : Rg (1201) (1220) (((hI h x0 1) + (20 : Int32))) := rg_lt2 (nle_lt c_1) (rg_b rfl : Rg (1200) (1200) ((1200 : Int32))) (rg_add (thI T r_x0 (k := 16) (i := 1) rfl : Rg (0) (1200) ((hI h x0 1))) (rg_b rfl : Rg (20) (20) ((20 : Int32))) (by decide) : Rg (20) (1220) (((hI h x0 1) + (20 : Int32))))
    have i_f_6 : Rg (1181) (1200) ((hI h x0 1)) := rg_bka (i_f_5 : Rg (1201) (1220) (((hI h x0 1) + (20 : Int32)))) (thI T r_x0 (k := 16) (i := 1) rfl : Rg (0) (1200) ((hI h x0 1))) (rg_b rfl : Rg (20) (20) ((20 : Int32))) (by decide)
    exact s_some ⟨(T), (rg_m (rg_b rfl : Rg (-104) (-104) ((- 104 : Int32))) (by decide))⟩
set_option maxRecDepth 20000 in
theorem zX15_figure_162 {ρ : Nat → Nat} {c : Cm} {F : Nat} {w_x3 : Nat} (hF : 700000 ≤ F) : ∀ (f : Nat) {h : Hp} {x0 : Nat} {x2 : Int32} {x3 : Nat} {x4 : Int32} {x5 : Int32}, cw c x3 = w_x3 → TH ρ c h → ρ x0 = 16 → Rg (6) (8) (x2) → ρ x3 = 13 → Rg (-2147483648) (2147483647) (x4) → Rg (0) (64) (x5) → (BdP x0 h) → (64 - x5.toInt).toNat < f → Sat (sX15_figure_162 F f h x0 x2 x3 x4 x5) (fun o => ∃ ρ' c', Ext ρ c ρ' c' ∧ TH ρ' c' o.2 ∧ Rg (-2147483648) (2147483647) (o.1)) := by
  intro f
  induction f with
  | zero => intros; omega
  | succ f ih =>
    intro h x0 x2 x3 x4 x5 o_x3 T r_x0 i_x2 r_x3 i_x4 i_x5 bd hm
    rw [sX15_figure_162]
    unfold sX15_figure_203 sX15_figure_194
    obtain ⟨C_162, hC_162⟩ : ∃ C : Int, C = x5.toInt := ⟨_, rfl⟩
    have hk_162 : ∀ {h : Hp} {x0 : Nat} {x2 : Int32} {x3 : Nat} {x4 : Int32} {x5 : Int32}, cw c x3 = w_x3 → TH ρ c h → ρ x0 = 16 → Rg (6) (8) (x2) → ρ x3 = 13 → Rg (-2147483648) (2147483647) (x4) → Rg (0) (64) (x5) → (BdP x0 h) → C_162 < x5.toInt → Sat (sX15_figure_162 F f h x0 x2 x3 x4 x5) (fun o => ∃ ρ' c', Ext ρ c ρ' c' ∧ TH ρ' c' o.2 ∧ Rg (-2147483648) (2147483647) (o.1)) := by
      intro h' x0' x2' x3' x4' x5' o_x3' T' r_x0' i_x2' r_x3' i_x4' i_x5' bd' hl
      exact ih o_x3' T' r_x0' i_x2' r_x3' i_x4' i_x5' bd' (by have := i_x5'.1; have := i_x5'.2; omega)
    have hc_162 : C_162 ≤ x5.toInt := by omega
    refine s_br (fun c_1 => ?_) (fun c_1 => ?_)
    · have _ := c_1
      have i_f_2 : Rg (9) (64) (x5) := rg_le2 c_1 (thI T r_x0 (k := 16) (i := 13) rfl : Rg (9) (64) ((hI h x0 13))) i_x5
      exact s_some ⟨_, _, ex_0, T, i_x4⟩
    · have _ := c_1
      have i_f_3 : Rg (0) (63) (x5) := rg_lt1 (nle_lt c_1) i_x5 (thI T r_x0 (k := 16) (i := 13) rfl : Rg (9) (64) ((hI h x0 13)))
      refine s_br (fun c_4 => ?_) (fun c_4 => ?_)
      · have _ := c_4
        have i_f_5 : Rg (8) (8) (x2) := rg_eq c_4 (rg_b rfl : Rg (8) (8) ((8 : Int32)))
        obtain ⟨r_3, e_r_3, q_r_3⟩ := thR T r_x3 (k := 13) (i := 0) (k2 := 62) rfl (by decide)
        refine s_ref e_r_3 ?_
        refine s_gd (by rw [thN T q_r_3 (k := 62) (n := 64) rfl (by decide)]; exact rg_inB (i_f_3 : Rg (0) (63) (x5)) (by decide)) ?_
        refine s_br (fun c_6 => ?_) (fun c_6 => ?_)
        · have _ := c_6
          have i_f_7 : Rg (0) (0) ((hI h r_3 x5.toNatClampNeg)) := rg_le1 c_6 (thI T q_r_3 (k := 62) rfl : Rg (0) (24) ((hI h r_3 x5.toNatClampNeg))) (rg_b rfl : Rg (0) (0) (0 : Int32))
          refine s_q (fun v_1q2 e_8 => ?_)
          have i_v_1q2 : Rg (-2147483648) (2147483647) (v_1q2) := by rw [e_8]; exact (rg_add i_x4 (rg_b rfl : Rg (0) (0) ((0 : Int32))) (by decide) : Rg (-2147483648) (2147483647) (x4 + (0 : Int32)))
          refine s_q (fun v_2q2 e_9 => ?_)
          have i_v_2q2 : Rg (1) (64) (v_2q2) := by rw [e_9]; exact (rg_add i_f_3 (rg_b rfl : Rg (1) (1) ((1 : Int32))) (by decide) : Rg (1) (64) (x5 + (1 : Int32)))
          have m_10 : (v_2q2).toInt = x5.toInt + 1 := by rw [e_9]; exact rg_inc i_f_3 (by decide)
          exact hk_162 o_x3 T r_x0 (rg_m i_f_5 (by decide)) r_x3 i_v_1q2 (rg_m i_v_2q2 (by decide)) bd (by have := hc_162; omega)
        · have _ := c_6
          have i_f_11 : Rg (1) (24) ((hI h r_3 x5.toNatClampNeg)) := rg_lt2 (nle_lt c_6) (rg_b rfl : Rg (0) (0) (0 : Int32)) (thI T q_r_3 (k := 62) rfl : Rg (0) (24) ((hI h r_3 x5.toNatClampNeg)))
          refine s_q (fun v_1q3 e_12 => ?_)
          have i_v_1q3 : Rg (-2147483648) (2147483647) (v_1q3) := by rw [e_12]; exact (rg_top _ : Rg (-2147483648) (2147483647) (x4 + (1 : Int32)))
          refine s_q (fun v_2q3 e_13 => ?_)
          have i_v_2q3 : Rg (1) (64) (v_2q3) := by rw [e_13]; exact (rg_add i_f_3 (rg_b rfl : Rg (1) (1) ((1 : Int32))) (by decide) : Rg (1) (64) (x5 + (1 : Int32)))
          have m_14 : (v_2q3).toInt = x5.toInt + 1 := by rw [e_13]; exact rg_inc i_f_3 (by decide)
          exact hk_162 o_x3 T r_x0 (rg_m i_f_5 (by decide)) r_x3 i_v_1q3 (rg_m i_v_2q3 (by decide)) bd (by have := hc_162; omega)
      · have _ := c_4
        have i_f_15 : Rg (6) (7) (x2) := rg_nhi c_4 i_x2 (rg_b rfl : Rg (8) (8) ((8 : Int32)))
        exact s_some ⟨_, _, ex_0, T, i_x4⟩
set_option maxRecDepth 20000 in
theorem zX15_figure_116 {ρ : Nat → Nat} {c : Cm} {F : Nat} {w_x3 : Nat} (hF : 700000 ≤ F) : ∀ (f : Nat) {h : Hp} {x0 : Nat} {x2 : Int32} {x3 : Nat} {x4 : Int32} {x5 : Int32}, cw c x3 = w_x3 → TH ρ c h → ρ x0 = 16 → Rg (6) (8) (x2) → ρ x3 = 13 → Rg (-2147483648) (2147483647) (x4) → Rg (0) (12) (x5) → (BdP x0 h) → (12 - x5.toInt).toNat < f → Sat (sX15_figure_116 F f h x0 x2 x3 x4 x5) (fun o => ∃ ρ' c', Ext ρ c ρ' c' ∧ TH ρ' c' o.2 ∧ Rg (-2147483648) (2147483647) (o.1)) := by
  intro f
  induction f with
  | zero => intros; omega
  | succ f ih =>
    intro h x0 x2 x3 x4 x5 o_x3 T r_x0 i_x2 r_x3 i_x4 i_x5 bd hm
    rw [sX15_figure_116]
    unfold sX15_figure_159
    obtain ⟨C_116, hC_116⟩ : ∃ C : Int, C = x5.toInt := ⟨_, rfl⟩
    have hk_116 : ∀ {h : Hp} {x0 : Nat} {x2 : Int32} {x3 : Nat} {x4 : Int32} {x5 : Int32}, cw c x3 = w_x3 → TH ρ c h → ρ x0 = 16 → Rg (6) (8) (x2) → ρ x3 = 13 → Rg (-2147483648) (2147483647) (x4) → Rg (0) (12) (x5) → (BdP x0 h) → C_116 < x5.toInt → Sat (sX15_figure_116 F f h x0 x2 x3 x4 x5) (fun o => ∃ ρ' c', Ext ρ c ρ' c' ∧ TH ρ' c' o.2 ∧ Rg (-2147483648) (2147483647) (o.1)) := by
      intro h' x0' x2' x3' x4' x5' o_x3' T' r_x0' i_x2' r_x3' i_x4' i_x5' bd' hl
      exact ih o_x3' T' r_x0' i_x2' r_x3' i_x4' i_x5' bd' (by have := i_x5'.1; have := i_x5'.2; omega)
    have hc_116 : C_116 ≤ x5.toInt := by omega
    obtain ⟨r_1, e_r_1, q_r_1⟩ := thR T r_x0 (k := 16) (i := 4) (k2 := 15) rfl (by decide)
    refine s_ref e_r_1 ?_
    refine s_br (fun c_1 => ?_) (fun c_1 => ?_)
    · have _ := c_1
      have m_2 : Rg (0) (64) ((0 : Int32)) := (rg_m (rg_b rfl : Rg (0) (0) ((0 : Int32))) (by decide))
      exact zX15_figure_162 hF F o_x3 T r_x0 i_x2 r_x3 i_x4 (rg_m (rg_b rfl : Rg (0) (0) ((0 : Int32))) (by decide)) bd (by have := m_2.1; have := m_2.2; omega)
    · have _ := c_1
      have i_f_3 : Rg (0) (11) (x5) := rg_lt1 (nle_lt c_1) i_x5 (thI T q_r_1 (k := 15) (i := 2) rfl : Rg (0) (12) ((hI h r_1 2)))
      have i_f_4 : Rg (1) (12) ((hI h r_1 2)) := rg_lt2 (nle_lt c_1) i_x5 (thI T q_r_1 (k := 15) (i := 2) rfl : Rg (0) (12) ((hI h r_1 2)))
      refine s_br (fun c_5 => ?_) (fun c_5 => ?_)
      · have _ := c_5
        have i_f_6 : Rg (8) (8) (x2) := rg_le2 c_5 (rg_b rfl : Rg (8) (8) ((8 : Int32))) i_x2
        have m_7 : Rg (0) (64) ((0 : Int32)) := (rg_m (rg_b rfl : Rg (0) (0) ((0 : Int32))) (by decide))
        exact zX15_figure_162 hF F o_x3 T r_x0 (rg_m i_f_6 (by decide)) r_x3 i_x4 (rg_m (rg_b rfl : Rg (0) (0) ((0 : Int32))) (by decide)) bd (by have := m_7.1; have := m_7.2; omega)
      · have _ := c_5
        have i_f_8 : Rg (6) (7) (x2) := rg_lt1 (nle_lt c_5) i_x2 (rg_b rfl : Rg (8) (8) ((8 : Int32)))
        obtain ⟨r_4, e_r_4, q_r_4⟩ := thR T r_x3 (k := 13) (i := 5) (k2 := 64) rfl (by decide)
        refine s_ref e_r_4 ?_
        refine s_gd (by rw [thN T q_r_4 (k := 64) (n := 24) rfl (by decide)]; exact rg_inB ((rg_sub (rg_add (rg_mulc' (rg_b rfl : Rg (2) (2) ((2 : Int32))) i_f_3 (by decide) : Rg (0) (22) (((2 : Int32) * x5))) i_f_8 (by decide) : Rg (6) (29) ((((2 : Int32) * x5) + x2))) (rg_b rfl : Rg (6) (6) ((6 : Int32))) (by decide) : Rg (0) (23) (((((2 : Int32) * x5) + x2) - (6 : Int32)))) : Rg (0) (23) (((((2 : Int32) * x5) + x2) - (6 : Int32)))) (by decide)) ?_
        refine s_q (fun v_6 e_9 => ?_)
        have i_v_6 : Rg (-2147483648) (2147483647) (v_6) := by rw [e_9]; exact (rg_top _ : Rg (-2147483648) (2147483647) (x4 + (hI h r_4 ((((2 : Int32) * x5) + x2) - (6 : Int32)).toNatClampNeg)))
        refine s_q (fun v_7 e_10 => ?_)
        have i_v_7 : Rg (1) (12) (v_7) := by rw [e_10]; exact (rg_add i_f_3 (rg_b rfl : Rg (1) (1) ((1 : Int32))) (by decide) : Rg (1) (12) (x5 + (1 : Int32)))
        have m_11 : (v_7).toInt = x5.toInt + 1 := by rw [e_10]; exact rg_inc i_f_3 (by decide)
        exact hk_116 o_x3 T r_x0 (rg_m i_f_8 (by decide)) r_x3 i_v_6 (rg_m i_v_7 (by decide)) bd (by have := hc_116; omega)
set_option maxRecDepth 20000 in
theorem zX15_figure {ρ : Nat → Nat} {c : Cm} {F : Nat} (hF : 700000 ≤ F) {h : Hp} {x0 : Nat} {x1 : Int32} {x2 : Int32} (T : TH ρ c h) (r_x0 : ρ x0 = 16) (i_x1 : Rg (-2147483648) (2147483647) (x1)) (i_x2 : Rg (-2147483648) (2147483647) (x2)) (bd : (BdP x0 h)) : Sat (sX15_figure F h x0 x1 x2) (fun o => ∃ ρ' c', Ext ρ c ρ' c' ∧ TH ρ' c' o.2 ∧ Rg (-2147483648) (2147483647) (o.1)) := by
  unfold sX15_figure sX15_figure_10 sX15_figure_18 sX15_figure_41 sX15_figure_82 sX15_figure_102
  refine s_br (fun c_1 => ?_) (fun c_1 => ?_)
  · have _ := c_1
    have i_f_2 : Rg (-2147483648) (-1) (x2) := rg_lt1 c_1 i_x2 (rg_b rfl : Rg (0) (0) (0 : Int32))
    exact s_some ⟨_, _, ex_0, T, (rg_m (rg_b rfl : Rg (-101) (-101) ((- 101 : Int32))) (by decide))⟩
  · have _ := c_1
    have i_f_3 : Rg (0) (2147483647) (x2) := rg_le2 (nlt_le c_1) (rg_b rfl : Rg (0) (0) (0 : Int32)) i_x2
    refine s_br (fun c_4 => ?_) (fun c_4 => ?_)
    · have _ := c_4
      have i_f_5 : Rg (0) (8) (x2) := rg_le1 c_4 i_f_3 (rg_b rfl : Rg (8) (8) ((8 : Int32)))
      refine s_dP0 (zX15_has hF T r_x0 i_x1) (fun o_3 eb_o_3 e_o_3 i_o_3 p_o_3 => ?_)
      have T_6 := th_eq e_o_3 T
      refine s_br (fun c_7 => ?_) (fun c_7 => ?_)
      · have _ := c_7
        have i_f_8 : Rg (0) (0) (o_3.1) := rg_eq c_7 (rg_b rfl : Rg (0) (0) (0 : Int32))
        exact s_some ⟨_, _, ex_0, T_6, (rg_m (rg_b rfl : Rg (-102) (-102) ((- 102 : Int32))) (by decide))⟩
      · have _ := c_7
        have i_f_9 : Rg (1) (1) (o_3.1) := rg_nlo c_7 i_o_3 (rg_b rfl : Rg (0) (0) (0 : Int32))
        have p_f_10 := p_o_3 c_7
        obtain ⟨r_2q2, e_r_2q2, q_r_2q2⟩ := thR T_6 r_x0 (k := 16) (i := 14) (k2 := 84) rfl (by decide)
        refine s_ref e_r_2q2 ?_
        refine s_gd (by rw [thN T_6 q_r_2q2 (k := 84) (n := 60) rfl (by decide)]; exact rg_inB (p_f_10 : Rg (0) (59) (x1)) (by decide)) ?_
        have pf_11 : HasB x0 x1 o_3.2 := (by rw [e_o_3]; exact (hb_of T r_x0 bd eb_o_3 c_7))
        obtain ⟨r_4q2, e_r_4q2, pe_r_4q2⟩ := pf_11 _ e_r_2q2
        have q_r_4q2 := thRn T_6 q_r_2q2 (k := 84) (k2 := 13) rfl (by decide) e_r_4q2
        refine s_ref e_r_4q2 ?_
        refine s_br (fun c_12 => ?_) (fun c_12 => ?_)
        · have _ := c_12
          have i_f_13 : Rg (6) (8) (x2) := rg_le2 c_12 (rg_b rfl : Rg (6) (6) ((6 : Int32))) i_f_5
          have pf_14 : BdP x0 o_3.2 := (by rw [e_o_3]; exact bd)
          have m_15 : Rg (0) (12) ((0 : Int32)) := (rg_m (rg_b rfl : Rg (0) (0) ((0 : Int32))) (by decide))
          exact zX15_figure_116 hF F (th_id T_6 q_r_2q2 (k := 84) (w := 3400) e_r_4q2 rfl (by decide)) T_6 r_x0 i_f_13 q_r_4q2 (rg_m (rg_b rfl : Rg (0) (0) ((0 : Int32))) (by decide)) (rg_m (rg_b rfl : Rg (0) (0) ((0 : Int32))) (by decide)) pf_14 (by have := m_15.1; have := m_15.2; omega)
        · have _ := c_12
          have i_f_16 : Rg (0) (5) (x2) := rg_lt1 (nle_lt c_12) i_f_5 (rg_b rfl : Rg (6) (6) ((6 : Int32)))
          refine s_q (fun a_6q2 e_18 => ?_)
          refine s_q (fun h_7q2 e_19 => ?_)
          obtain ⟨c_h_7q2, X_h_7q2, T_17, z_a_6q2, n_a_6q2, g_h_7q2⟩ := scr T_6 e_18 e_19
          have f_h_7q2 := g_h_7q2 (fS [] [])
          have pf_20 : BdP x0 h_7q2 := (bp_fr T_6 r_x0 f_h_7q2 (fun _ => rfl) (fun _ => rfl) (fun _ _ => rfl) (fun _ _ => rfl) rfl rfl rfl (fun _ => rfl) (fun _ => rfl) (by rw [e_o_3]; exact bd))
          have pf_21 : HasB x0 x1 h_7q2 := (hb_fr T_6 r_x0 f_h_7q2 (fun _ => rfl) (fun _ _ => rfl) rfl rfl rfl (fun _ => rfl) (fun _ => rfl) pf_11)
          have pf_22 : PE r_4q2 h_7q2 := (pe_fr T_6 q_r_4q2 f_h_7q2 rfl rfl rfl (fun _ => rfl) (fun _ => rfl) pe_r_4q2)
          have e_r_2q2 := hr_q ((fr_RI f_h_7q2 r_x0 (by decide) (fun _ => rfl)).2.2) e_r_2q2
          refine s_gd (by rw [n_a_6q2]; exact rg_inB ((rg_m (rg_b rfl : Rg (0) (0) ((0 : Int32))) (by decide)) : Rg (0) (5) ((0 : Int32))) (by decide)) ?_
          refine s_hq (th_w0 T_17 z_a_6q2) (fun h_2q3 T_23 w_24 => ?_)
          have ns_25 : hN h_2q3 a_6q2 = 6 := by rw [w_24]; exact n_a_6q2
          refine s_gd (by rw [ns_25]; exact rg_inB ((rg_m (rg_b rfl : Rg (1) (1) ((1 : Int32))) (by decide)) : Rg (0) (5) ((1 : Int32))) (by decide)) ?_
          refine s_hq (th_w0 T_23 z_a_6q2) (fun h_4q3 T_26 w_27 => ?_)
          have ns_28 : hN h_4q3 a_6q2 = 6 := by rw [w_27]; exact ns_25
          obtain ⟨r_5q3, e_r_5q3, q_r_5q3⟩ := thR T_26 (ex_r X_h_7q2 q_r_4q2 (by decide)) (k := 13) (i := 6) (k2 := 65) rfl (by decide)
          refine s_ref e_r_5q3 ?_
          refine s_gd (by rw [thN T_26 q_r_5q3 (k := 65) (n := 2) rfl (by decide)]; exact rg_inB ((rg_m (rg_b rfl : Rg (0) (0) ((0 : Int32))) (by decide)) : Rg (0) (1) ((0 : Int32))) (by decide)) ?_
          refine s_gd (by rw [ns_28]; exact rg_inB ((rg_m (rg_b rfl : Rg (2) (2) ((2 : Int32))) (by decide)) : Rg (0) (5) ((2 : Int32))) (by decide)) ?_
          refine s_hq (th_w0 T_26 z_a_6q2) (fun h_8q3 T_29 w_30 => ?_)
          have ns_31 : hN h_8q3 a_6q2 = 6 := by rw [w_30]; exact ns_28
          refine s_ref (hr_w w_30 e_r_5q3) ?_
          refine s_gd (by rw [thN T_29 q_r_5q3 (k := 65) (n := 2) rfl (by decide)]; exact rg_inB ((rg_m (rg_b rfl : Rg (1) (1) ((1 : Int32))) (by decide)) : Rg (0) (1) ((1 : Int32))) (by decide)) ?_
          refine s_gd (by rw [ns_31]; exact rg_inB ((rg_m (rg_b rfl : Rg (3) (3) ((3 : Int32))) (by decide)) : Rg (0) (5) ((3 : Int32))) (by decide)) ?_
          refine s_hq (th_w0 T_29 z_a_6q2) (fun h_12q3 T_32 w_33 => ?_)
          have ns_34 : hN h_12q3 a_6q2 = 6 := by rw [w_33]; exact ns_31
          refine s_dI0 (zJ13_bitCount_95d88 hF T_32) (fun o_13q3 eb_o_13q3 e_o_13q3 i_o_13q3 => ?_)
          have T_35 := th_eq e_o_13q3 T_32
          have ns_36 : hN o_13q3.2 a_6q2 = 6 := by rw [e_o_13q3]; exact ns_34
          refine s_gd (by rw [ns_36]; exact rg_inB ((rg_m (rg_b rfl : Rg (4) (4) ((4 : Int32))) (by decide)) : Rg (0) (5) ((4 : Int32))) (by decide)) ?_
          refine s_hq (th_w0 T_35 z_a_6q2) (fun h_2q4 T_37 w_38 => ?_)
          have ns_39 : hN h_2q4 a_6q2 = 6 := by rw [w_38]; exact ns_36
          refine s_br (fun c_40 => ?_) (fun c_40 => ?_)
          · have _ := c_40
            have i_f_41 : Rg (0) (0) ((hI h_2q4 r_4q2 3)) := rg_le1 c_40 (thI T_37 (ex_r X_h_7q2 q_r_4q2 (by decide)) (k := 13) (i := 3) rfl : Rg (0) (64) ((hI h_2q4 r_4q2 3))) (rg_b rfl : Rg (0) (0) (0 : Int32))
            refine s_gd (by rw [ns_39]; exact rg_inB ((rg_m (rg_b rfl : Rg (5) (5) ((5 : Int32))) (by decide)) : Rg (0) (5) ((5 : Int32))) (by decide)) ?_
            refine s_hq (th_w0 T_37 z_a_6q2) (fun h_2q5 T_42 w_43 => ?_)
            have ns_44 : hN h_2q5 a_6q2 = 6 := by rw [w_43]; exact ns_39
            refine s_gd (by rw [ns_44]; exact rg_inB (i_f_16 : Rg (0) (5) (x2)) (by decide)) ?_
            exact s_some ⟨_, _, X_h_7q2, T_42, (rg_top _ : Rg (-2147483648) (2147483647) (hI h_2q5 a_6q2 x2.toNatClampNeg))⟩
          · have _ := c_40
            have i_f_45 : Rg (1) (64) ((hI h_2q4 r_4q2 3)) := rg_lt2 (nle_lt c_40) (rg_b rfl : Rg (0) (0) (0 : Int32)) (thI T_37 (ex_r X_h_7q2 q_r_4q2 (by decide)) (k := 13) (i := 3) rfl : Rg (0) (64) ((hI h_2q4 r_4q2 3)))
            obtain ⟨r_4q4, e_r_4q4, q_r_4q4⟩ := thR T_37 (ex_r X_h_7q2 q_r_4q2 (by decide)) (k := 13) (i := 4) (k2 := 63) rfl (by decide)
            refine s_ref e_r_4q4 ?_
            refine s_gd (by rw [thN T_37 q_r_4q4 (k := 63) (n := 64) rfl (by decide)]; exact rg_inB ((rg_m (rg_b rfl : Rg (0) (0) ((0 : Int32))) (by decide)) : Rg (0) (63) ((0 : Int32))) (by decide)) ?_
            refine s_gd (by rw [ns_39]; exact rg_inB ((rg_m (rg_b rfl : Rg (5) (5) ((5 : Int32))) (by decide)) : Rg (0) (5) ((5 : Int32))) (by decide)) ?_
            refine s_hq (th_w0 T_37 z_a_6q2) (fun h_2q6 T_46 w_47 => ?_)
            have ns_48 : hN h_2q6 a_6q2 = 6 := by rw [w_47]; exact ns_39
            refine s_gd (by rw [ns_48]; exact rg_inB (i_f_16 : Rg (0) (5) (x2)) (by decide)) ?_
            exact s_some ⟨_, _, X_h_7q2, T_46, (rg_top _ : Rg (-2147483648) (2147483647) (hI h_2q6 a_6q2 x2.toNatClampNeg))⟩
    · have _ := c_4
      have i_f_49 : Rg (9) (2147483647) (x2) := rg_lt2 (nle_lt c_4) (rg_b rfl : Rg (8) (8) ((8 : Int32))) i_f_3
      exact s_some ⟨_, _, ex_0, T, (rg_m (rg_b rfl : Rg (-101) (-101) ((- 101 : Int32))) (by decide))⟩
set_option maxRecDepth 20000 in
theorem zX15_isWord_28 {ρ : Nat → Nat} {c : Cm} {h0 : Hp} {F : Nat} (hF : 700000 ≤ F) : ∀ (f : Nat) {h : Hp} {x0 : Nat} {x1 : Nat} {x2 : Nat} {x3 : Int32}, h = h0 → TH ρ c h → ρ x0 = 16 → ρ x1 = 82 → Rg (0) (231) (x3) → ((hI h x0 7).toInt + (nI (lB x2).length).toInt = (hI h x0 8).toInt) → (231 - x3.toInt).toNat < f → Sat (sX15_isWord_28 F f h x0 x1 x2 x3) (ZI0 h0 (0) (1)) := by
  intro f
  induction f with
  | zero => intros; omega
  | succ f ih =>
    intro h x0 x1 x2 x3 E T r_x0 r_x1 i_x3 tw hm
    rw [sX15_isWord_28]
    obtain ⟨C_28, hC_28⟩ : ∃ C : Int, C = x3.toInt := ⟨_, rfl⟩
    have hk_28 : ∀ {h : Hp} {x0 : Nat} {x1 : Nat} {x2 : Nat} {x3 : Int32}, h = h0 → TH ρ c h → ρ x0 = 16 → ρ x1 = 82 → Rg (0) (231) (x3) → ((hI h x0 7).toInt + (nI (lB x2).length).toInt = (hI h x0 8).toInt) → C_28 < x3.toInt → Sat (sX15_isWord_28 F f h x0 x1 x2 x3) (ZI0 h0 (0) (1)) := by
      intro h' x0' x1' x2' x3' E' T' r_x0' r_x1' i_x3' tw' hl
      exact ih E' T' r_x0' r_x1' i_x3' tw' (by have := i_x3'.1; have := i_x3'.2; omega)
    have hc_28 : C_28 ≤ x3.toInt := by omega
    refine s_br (fun c_1 => ?_) (fun c_1 => ?_)
    · have _ := c_1
      exact s_some ⟨E, (rg_m (rg_b rfl : Rg (1) (1) ((1 : Int32))) (by decide))⟩
    · have _ := c_1
      have i_f_2 : Rg (0) (230) (x3) := rg_lt1 (nle_lt c_1) i_x3 (rg_lB _ : Rg (0) (231) ((nI (lB x2).length)))
      have i_f_3 : Rg (1) (231) ((nI (lB x2).length)) := rg_lt2 (nle_lt c_1) i_x3 (rg_lB _ : Rg (0) (231) ((nI (lB x2).length)))
      have og_4 : Rg (0) (1219) (((hI h x0 7) + x3)) := ⟨(by have : (((hI h x0 7) + x3) : Int32).toInt = ((hI h x0 7) : Int32).toInt + (x3 : Int32).toInt := ti_add ((thI T r_x0 (k := 16) (i := 7) rfl : Rg (0) (1200) ((hI h x0 7))) : Rg (0) (1200) ((hI h x0 7))) (i_f_2 : Rg (0) (230) (x3)) (by decide); have hq_ := ((thI T r_x0 (k := 16) (i := 7) rfl : Rg (0) (1200) ((hI h x0 7))) : Rg (0) (1200) ((hI h x0 7))); have := hq_.1; have := hq_.2; have := (i_f_2 : Rg (0) (230) (x3)).1; have := (i_f_2 : Rg (0) (230) (x3)).2; have hq_ := ((thI T r_x0 (k := 16) (i := 8) rfl : Rg (0) (1200) ((hI h x0 8))) : Rg (0) (1200) ((hI h x0 8))); have := hq_.1; have := hq_.2; have := nle_i c_1; have := (i_f_3 : Rg (1) (231) ((nI (lB x2).length))).1; have := (i_f_3 : Rg (1) (231) ((nI (lB x2).length))).2; omega), (by have : (((hI h x0 7) + x3) : Int32).toInt = ((hI h x0 7) : Int32).toInt + (x3 : Int32).toInt := ti_add ((thI T r_x0 (k := 16) (i := 7) rfl : Rg (0) (1200) ((hI h x0 7))) : Rg (0) (1200) ((hI h x0 7))) (i_f_2 : Rg (0) (230) (x3)) (by decide); have hq_ := ((thI T r_x0 (k := 16) (i := 7) rfl : Rg (0) (1200) ((hI h x0 7))) : Rg (0) (1200) ((hI h x0 7))); have := hq_.1; have := hq_.2; have := (i_f_2 : Rg (0) (230) (x3)).1; have := (i_f_2 : Rg (0) (230) (x3)).2; have hq_ := ((thI T r_x0 (k := 16) (i := 8) rfl : Rg (0) (1200) ((hI h x0 8))) : Rg (0) (1200) ((hI h x0 8))); have := hq_.1; have := hq_.2; have := nle_i c_1; have := (i_f_3 : Rg (1) (231) ((nI (lB x2).length))).1; have := (i_f_3 : Rg (1) (231) ((nI (lB x2).length))).2; omega)⟩
      refine s_gd (by rw [thN T r_x1 (k := 82) (n := 1220) rfl (by decide)]; exact rg_inB (og_4 : Rg (0) (1219) (((hI h x0 7) + x3))) (by decide)) ?_
      refine s_gd (rg_inBl i_f_2 (by decide) (lB_lt2 _) c_1) ?_
      refine s_br (fun c_5 => ?_) (fun c_5 => ?_)
      · have _ := c_5
        refine s_q (fun v_5 e_6 => ?_)
        have i_v_5 : Rg (1) (231) (v_5) := by rw [e_6]; exact (rg_add i_f_2 (rg_b rfl : Rg (1) (1) ((1 : Int32))) (by decide) : Rg (1) (231) (x3 + (1 : Int32)))
        have m_7 : (v_5).toInt = x3.toInt + 1 := by rw [e_6]; exact rg_inc i_f_2 (by decide)
        exact hk_28 E T r_x0 r_x1 (rg_m i_v_5 (by decide)) tw (by have := hc_28; omega)
      · have _ := c_5
        exact s_some ⟨E, (rg_m (rg_b rfl : Rg (0) (0) ((0 : Int32))) (by decide))⟩
set_option maxRecDepth 20000 in
theorem zX15_isWord {ρ : Nat → Nat} {c : Cm} {F : Nat} (hF : 700000 ≤ F) {h : Hp} {x0 : Nat} {x1 : Nat} {x2 : Nat} (T : TH ρ c h) (r_x0 : ρ x0 = 16) (r_x1 : ρ x1 = 82) : Sat (sX15_isWord F h x0 x1 x2) (ZI0 h (0) (1)) := by
  unfold sX15_isWord sX15_isWord_24
  refine s_br (fun c_1 => ?_) (fun c_1 => ?_)
  · have _ := c_1
    have i_f_2 : Rg (1) (1) ((hI h x0 6)) := rg_eq c_1 (rg_b rfl : Rg (1) (1) ((1 : Int32)))
    refine s_br (fun c_3 => ?_) (fun c_3 => ?_)
    · have _ := c_3
      have i_f_4 : Rg (0) (231) (((hI h x0 8) - (hI h x0 7))) := rg_eq c_3 (rg_lB _ : Rg (0) (231) ((nI (lB x2).length)))
      have m_5 : Rg (0) (231) ((0 : Int32)) := (rg_m (rg_b rfl : Rg (0) (0) ((0 : Int32))) (by decide))
      exact zX15_isWord_28 hF F rfl T r_x0 r_x1 (rg_m (rg_b rfl : Rg (0) (0) ((0 : Int32))) (by decide)) (show (hI h x0 7).toInt + (nI (lB x2).length).toInt = (hI h x0 8).toInt from (by have hq_ := ((thI T r_x0 (k := 16) (i := 7) rfl : Rg (0) (1200) ((hI h x0 7))) : Rg (0) (1200) ((hI h x0 7))); have := hq_.1; have := hq_.2; have hq_ := ((thI T r_x0 (k := 16) (i := 8) rfl : Rg (0) (1200) ((hI h x0 8))) : Rg (0) (1200) ((hI h x0 8))); have := hq_.1; have := hq_.2; have := eq_i c_3; have : (((hI h x0 8) - (hI h x0 7)) : Int32).toInt = ((hI h x0 8) : Int32).toInt - ((hI h x0 7) : Int32).toInt := ti_sub ((thI T r_x0 (k := 16) (i := 8) rfl : Rg (0) (1200) ((hI h x0 8))) : Rg (0) (1200) ((hI h x0 8))) ((thI T r_x0 (k := 16) (i := 7) rfl : Rg (0) (1200) ((hI h x0 7))) : Rg (0) (1200) ((hI h x0 7))) (by decide); have hq_ := ((rg_lB _ : Rg (0) (231) ((nI (lB x2).length))) : Rg (0) (231) ((nI (lB x2).length))); have := hq_.1; have := hq_.2; omega)) (by have := m_5.1; have := m_5.2; omega)
    · have _ := c_3
      exact s_some ⟨rfl, (rg_m (rg_b rfl : Rg (0) (0) ((0 : Int32))) (by decide))⟩
  · have _ := c_1
    exact s_some ⟨rfl, (rg_m (rg_b rfl : Rg (0) (0) ((0 : Int32))) (by decide))⟩
set_option maxRecDepth 20000 in
theorem zX15_flagAt {ρ : Nat → Nat} {c : Cm} {F : Nat} (hF : 700000 ≤ F) {h : Hp} {x0 : Nat} {x1 : Nat} (T : TH ρ c h) (r_x0 : ρ x0 = 16) (r_x1 : ρ x1 = 82) : Sat (sX15_flagAt F h x0 x1) (ZI0 h (0) (32)) := by
  unfold sX15_flagAt sX15_flagAt_88
  refine s_dI0 (zX15_isWord hF T r_x0 r_x1) (fun o_1 eb_o_1 e_o_1 i_o_1 => ?_)
  have T_1 := th_eq e_o_1 T
  refine s_br (fun c_2 => ?_) (fun c_2 => ?_)
  · have _ := c_2
    have i_f_3 : Rg (0) (0) (o_1.1) := rg_eq c_2 (rg_b rfl : Rg (0) (0) (0 : Int32))
    refine s_dI0 (zX15_isWord hF T_1 r_x0 r_x1) (fun o_3 eb_o_3 e_o_3 i_o_3 => ?_)
    have T_4 := th_eq e_o_3 T_1
    refine s_br (fun c_5 => ?_) (fun c_5 => ?_)
    · have _ := c_5
      have i_f_6 : Rg (0) (0) (o_3.1) := rg_eq c_5 (rg_b rfl : Rg (0) (0) (0 : Int32))
      refine s_dI0 (zX15_isWord hF T_4 r_x0 r_x1) (fun o_5 eb_o_5 e_o_5 i_o_5 => ?_)
      have T_7 := th_eq e_o_5 T_4
      refine s_br (fun c_8 => ?_) (fun c_8 => ?_)
      · have _ := c_8
        have i_f_9 : Rg (0) (0) (o_5.1) := rg_eq c_8 (rg_b rfl : Rg (0) (0) (0 : Int32))
        refine s_dI0 (zX15_isWord hF T_7 r_x0 r_x1) (fun o_7 eb_o_7 e_o_7 i_o_7 => ?_)
        have T_10 := th_eq e_o_7 T_7
        refine s_br (fun c_11 => ?_) (fun c_11 => ?_)
        · have _ := c_11
          have i_f_12 : Rg (0) (0) (o_7.1) := rg_eq c_11 (rg_b rfl : Rg (0) (0) (0 : Int32))
          refine s_dI0 (zX15_isWord hF T_10 r_x0 r_x1) (fun o_9 eb_o_9 e_o_9 i_o_9 => ?_)
          have T_13 := th_eq e_o_9 T_10
          refine s_br (fun c_14 => ?_) (fun c_14 => ?_)
          · have _ := c_14
            have i_f_15 : Rg (0) (0) (o_9.1) := rg_eq c_14 (rg_b rfl : Rg (0) (0) (0 : Int32))
            refine s_dI0 (zX15_isWord hF T_13 r_x0 r_x1) (fun o_11 eb_o_11 e_o_11 i_o_11 => ?_)
            have T_16 := th_eq e_o_11 T_13
            refine s_br (fun c_17 => ?_) (fun c_17 => ?_)
            · have _ := c_17
              have i_f_18 : Rg (0) (0) (o_11.1) := rg_eq c_17 (rg_b rfl : Rg (0) (0) (0 : Int32))
              exact s_some ⟨(e_o_11.trans (e_o_9.trans (e_o_7.trans (e_o_5.trans (e_o_3.trans (e_o_1.trans rfl)))))), (rg_m (rg_b rfl : Rg (0) (0) ((0 : Int32))) (by decide))⟩
            · have _ := c_17
              have i_f_19 : Rg (1) (1) (o_11.1) := rg_nlo c_17 i_o_11 (rg_b rfl : Rg (0) (0) (0 : Int32))
              exact s_some ⟨(e_o_11.trans (e_o_9.trans (e_o_7.trans (e_o_5.trans (e_o_3.trans (e_o_1.trans rfl)))))), (rg_m (rg_b rfl : Rg (32) (32) ((32 : Int32))) (by decide))⟩
          · have _ := c_14
            have i_f_20 : Rg (1) (1) (o_9.1) := rg_nlo c_14 i_o_9 (rg_b rfl : Rg (0) (0) (0 : Int32))
            exact s_some ⟨(e_o_9.trans (e_o_7.trans (e_o_5.trans (e_o_3.trans (e_o_1.trans rfl))))), (rg_m (rg_b rfl : Rg (16) (16) ((16 : Int32))) (by decide))⟩
        · have _ := c_11
          have i_f_21 : Rg (1) (1) (o_7.1) := rg_nlo c_11 i_o_7 (rg_b rfl : Rg (0) (0) (0 : Int32))
          exact s_some ⟨(e_o_7.trans (e_o_5.trans (e_o_3.trans (e_o_1.trans rfl)))), (rg_m (rg_b rfl : Rg (8) (8) ((8 : Int32))) (by decide))⟩
      · have _ := c_8
        have i_f_22 : Rg (1) (1) (o_5.1) := rg_nlo c_8 i_o_5 (rg_b rfl : Rg (0) (0) (0 : Int32))
        exact s_some ⟨(e_o_5.trans (e_o_3.trans (e_o_1.trans rfl))), (rg_m (rg_b rfl : Rg (4) (4) ((4 : Int32))) (by decide))⟩
    · have _ := c_5
      have i_f_23 : Rg (1) (1) (o_3.1) := rg_nlo c_5 i_o_3 (rg_b rfl : Rg (0) (0) (0 : Int32))
      exact s_some ⟨(e_o_3.trans (e_o_1.trans rfl)), (rg_m (rg_b rfl : Rg (2) (2) ((2 : Int32))) (by decide))⟩
  · have _ := c_2
    have i_f_24 : Rg (1) (1) (o_1.1) := rg_nlo c_2 i_o_1 (rg_b rfl : Rg (0) (0) (0 : Int32))
    exact s_some ⟨(e_o_1.trans rfl), (rg_m (rg_b rfl : Rg (1) (1) ((1 : Int32))) (by decide))⟩
set_option maxRecDepth 20000 in
theorem zX15_go {ρ : Nat → Nat} {c : Cm} {F : Nat} (hF : 700000 ≤ F) (hA : pmA c [(84, 999), (85, 999), (87, 999), (88, 999), (89, 999), (16, 16), (16, 23), (16, 24), (16, 29)]) (hi_2528 : pmO c 2528 [(62, 999), (63, 999), (64, 999), (65, 999), (13, 1), (13, 2), (13, 3), (13, 7)]) (hi_2530 : pmO c 2530 [(66, 999), (67, 999), (68, 999), (69, 999), (70, 999), (71, 999), (72, 999), (14, 0)]) (hi_2532 : pmO c 2532 [(62, 999), (63, 999), (64, 999), (65, 999), (13, 1), (13, 2), (13, 3), (13, 7)]) (hi_3400 : pmO c 3400 [(62, 999), (63, 999), (64, 999), (65, 999), (13, 1), (13, 2), (13, 3), (13, 7)]) {h : Hp} {x0 : Nat} {x1 : Int32} {x2 : Int32} (T : TH ρ c h) (r_x0 : ρ x0 = 16) (i_x1 : Rg (-2147483648) (2147483647) (x1)) (i_x2 : Rg (-2147483648) (2147483647) (x2)) (bd : (BdP x0 h)) (sq : (SqOk x0 h)) : Sat (sX15_go F h x0 x1 x2) (fun o => ∃ ρ' c', Ext ρ c ρ' c' ∧ TH ρ' c' o.2 ∧ Rg (-104) (59) (o.1)) := by
  unfold sX15_go sX15_go_5 sX15_go_25 sX15_go_32 sX15_go_58 sX15_go_66
  refine s_cIfq (S := fS [(87, 999), (88, 999), (89, 999), (16, 23), (16, 24), (16, 29)] [(2528, [(62, 999), (63, 999), (64, 999), (65, 999), (13, 1), (13, 2), (13, 3), (13, 7)]), (2530, [(66, 999), (67, 999), (68, 999), (69, 999), (70, 999), (71, 999), (72, 999), (14, 0)])]) T (fs_sub (pmA_s hA rfl) (fs_c (pmO_s hi_2528 rfl) (fs_c (pmO_s hi_2530 rfl) fs_n))) (zX15_moves hF fs_a (fs_o (.head _)) (fs_o (.tail _ (.head _))) (th_in _ T) r_x0 i_x1 bd sq) (fun o_1 T_1 i_o_1 f_o_1 p_o_1 => ?_)
  have pq_o_1_0 : o_1.1.toInt = -102 ∨ (0 ≤ (x1).toInt ∧ (x1).toInt ≤ 59) := p_o_1.1
  refine s_br (fun c_2 => ?_) (fun c_2 => ?_)
  · have _ := c_2
    have i_f_3 : Rg (-102) (-102) (o_1.1) := rg_eq c_2 (rg_b rfl : Rg (-102) (-102) ((- 102 : Int32)))
    exact s_some ⟨_, _, ex_0, T_1, (rg_m (rg_b rfl : Rg (-102) (-102) ((- 102 : Int32))) (by decide))⟩
  · have _ := c_2
    have i_f_4 : Rg (-101) (3000) (o_1.1) := rg_nlo c_2 i_o_1 (rg_b rfl : Rg (-102) (-102) ((- 102 : Int32)))
    refine s_br (fun c_5 => ?_) (fun c_5 => ?_)
    · have _ := c_5
      have i_f_6 : Rg (-2147483648) (-1) (x2) := rg_lt1 c_5 i_x2 (rg_b rfl : Rg (0) (0) (0 : Int32))
      exact s_some ⟨_, _, ex_0, T_1, (rg_m (rg_b rfl : Rg (-102) (-102) ((- 102 : Int32))) (by decide))⟩
    · have _ := c_5
      have i_f_7 : Rg (0) (2147483647) (x2) := rg_le2 (nlt_le c_5) (rg_b rfl : Rg (0) (0) (0 : Int32)) i_x2
      obtain ⟨r_3q1, e_r_3q1, q_r_3q1⟩ := thR T_1 r_x0 (k := 16) (i := 30) (k2 := 14) rfl (by decide)
      refine s_ref e_r_3q1 ?_
      refine s_br (fun c_8 => ?_) (fun c_8 => ?_)
      · have _ := c_8
        have i_f_9 : Rg (0) (2999) (x2) := rg_lt1 c_8 i_f_7 (thI T_1 q_r_3q1 (k := 14) (i := 0) rfl : Rg (0) (3000) ((hI o_1.2 r_3q1 0)))
        have i_f_10 : Rg (1) (3000) ((hI o_1.2 r_3q1 0)) := rg_lt2 c_8 i_f_7 (thI T_1 q_r_3q1 (k := 14) (i := 0) rfl : Rg (0) (3000) ((hI o_1.2 r_3q1 0)))
        refine s_dI0 (zX15_freePlace hF T_1 r_x0) (fun o_5q1 eb_o_5q1 e_o_5q1 i_o_5q1 => ?_)
        have T_11 := th_eq e_o_5q1 T_1
        refine s_br (fun c_12 => ?_) (fun c_12 => ?_)
        · have _ := c_12
          have i_f_13 : Rg (-1) (-1) (o_5q1.1) := rg_eq c_12 (rg_b rfl : Rg (-1) (-1) ((- 1 : Int32)))
          exact s_some ⟨_, _, ex_0, T_11, (rg_m (rg_b rfl : Rg (-104) (-104) ((- 104 : Int32))) (by decide))⟩
        · have _ := c_12
          have i_f_14 : Rg (0) (59) (o_5q1.1) := rg_nlo c_12 i_o_5q1 (rg_b rfl : Rg (-1) (-1) ((- 1 : Int32)))
          obtain ⟨r_2q4, e_r_2q4, q_r_2q4⟩ := thR T_11 r_x0 (k := 16) (i := 14) (k2 := 84) rfl (by decide)
          refine s_ref e_r_2q4 ?_
          have og_15 : Rg (0) (59) (x1) := ⟨(by have := (i_x1 : Rg (-2147483648) (2147483647) (x1)).1; have := (i_x1 : Rg (-2147483648) (2147483647) (x1)).2; have := (i_f_4 : Rg (-101) (3000) (o_1.1)).1; have := (i_f_4 : Rg (-101) (3000) (o_1.1)).2; have := ne_i c_2; have : ((- 102 : Int32)).toInt = -102 := rfl; omega), (by have := (i_x1 : Rg (-2147483648) (2147483647) (x1)).1; have := (i_x1 : Rg (-2147483648) (2147483647) (x1)).2; have := (i_f_4 : Rg (-101) (3000) (o_1.1)).1; have := (i_f_4 : Rg (-101) (3000) (o_1.1)).2; have := ne_i c_2; have : ((- 102 : Int32)).toInt = -102 := rfl; omega)⟩
          refine s_gd (by rw [thN T_11 q_r_2q4 (k := 84) (n := 60) rfl (by decide)]; exact rg_inB (og_15 : Rg (0) (59) (x1)) (by decide)) ?_
          have pf_16 : MvP x0 x1 o_5q1.2 := (by rw [e_o_5q1]; exact (p_o_1.2 (show ¬ o_1.1.toInt = -102 from (by have := (i_f_4 : Rg (-101) (3000) (o_1.1)).1; have := (i_f_4 : Rg (-101) (3000) (o_1.1)).2; have := (og_15 : Rg (0) (59) (x1)).1; have := (og_15 : Rg (0) (59) (x1)).2; have := ne_i c_2; have : ((- 102 : Int32)).toInt = -102 := rfl; omega))))
          obtain ⟨r_4q4, e_r_4q4, pe_r_4q4⟩ := (mp_hb pf_16) _ e_r_2q4
          have q_r_4q4 := thRn T_11 q_r_2q4 (k := 84) (k2 := 13) rfl (by decide) e_r_4q4
          refine s_ref e_r_4q4 ?_
          refine s_ref (hr_e e_o_5q1 e_r_3q1) ?_
          obtain ⟨r_6q4, e_r_6q4, q_r_6q4⟩ := thR T_11 r_x0 (k := 16) (i := 32) (k2 := 13) rfl (by decide)
          refine s_ref e_r_6q4 ?_
          have pf_17 : SqOk x0 o_5q1.2 := (by rw [e_o_5q1]; exact (sq_fr T r_x0 f_o_1 (fun _ => rfl) (fun _ => rfl) (fun _ => rfl) sq))
          refine s_cVfq (S := fS [(16, 23), (16, 24)] [(2532, [(62, 999), (63, 999), (64, 999), (65, 999), (13, 1), (13, 2), (13, 3), (13, 7)])]) T_11 (fs_sub (pmA_s hA rfl) (fs_c (pmO_s hi_2532 rfl) fs_n)) (zX15_make hF fs_a (fs_o (.head _)) (th_id T_11 q_r_2q4 (k := 84) (w := 3400) e_r_4q4 rfl (by decide)) (th_id T_1 r_x0 (k := 16) (i := 30) (w := 2530) e_r_3q1 rfl (by decide)) (th_id T_11 r_x0 (k := 16) (i := 32) (w := 2532) e_r_6q4 rfl (by decide)) (th_in _ T_11) r_x0 q_r_4q4 q_r_3q1 i_f_9 q_r_6q4 pf_17 (mp_mv pf_16 e_r_2q4 e_r_4q4 (hr_e e_o_5q1 e_r_3q1)) (show (x2).toInt < (hI o_5q1.2 r_3q1 0).toInt from (by have := (i_f_9 : Rg (0) (2999) (x2)).1; have := (i_f_9 : Rg (0) (2999) (x2)).2; have hq_ := (((rg_he e_o_5q1 i_f_10) : Rg (1) (3000) ((hI o_5q1.2 r_3q1 0))) : Rg (1) (3000) ((hI o_5q1.2 r_3q1 0))); have := hq_.1; have := hq_.2; have : (hI o_5q1.2 r_3q1 0).toInt = (hI o_1.2 r_3q1 0).toInt := congrArg Int32.toInt (he_e e_o_5q1); have := (i_f_4 : Rg (-101) (3000) (o_1.1)).1; have := (i_f_4 : Rg (-101) (3000) (o_1.1)).2; have := (og_15 : Rg (0) (59) (x1)).1; have := (og_15 : Rg (0) (59) (x1)).2; have := (i_f_10 : Rg (1) (3000) ((hI o_1.2 r_3q1 0))).1; have := (i_f_10 : Rg (1) (3000) ((hI o_1.2 r_3q1 0))).2; have := ne_i c_2; have : ((- 102 : Int32)).toInt = -102 := rfl; have := nlt_i c_5; have : (0 : Int32).toInt = 0 := rfl; have := lt_i c_8; omega))) (fun o_7q4 T_18 f_o_7q4 p_o_7q4 => ?_)
          refine s_ref (hr_q (fr_R f_o_7q4 r_x0 (by decide) rfl rfl) e_r_6q4) ?_
          have pf_19 : BdP x0 o_7q4 := (bp_fr T_11 r_x0 f_o_7q4 (fun _ => rfl) (fun _ => rfl) (fun _ _ => rfl) (fun _ _ => rfl) rfl rfl rfl (fun _ => rfl) (fun _ => rfl) (by rw [e_o_5q1]; exact (bp_fr T r_x0 f_o_1 (fun _ => rfl) (fun _ => rfl) (fun _ _ => rfl) (fun _ _ => rfl) rfl rfl rfl (fun _ => rfl) (fun _ => rfl) bd)))
          refine s_mk (S := fS [(84, 999), (85, 999), (16, 16)] [(3400, [(62, 999), (63, 999), (64, 999), (65, 999), (13, 1), (13, 2), (13, 3), (13, 7)])]) (g := (fun (o : Int32 × Hp) => o.2)) (P := fun (o : Int32 × Hp) (ρ' : Nat → Nat) (c' : Cm) => Rg (-104) (59) (o.1) ∧ BdP x0 o.2) T_18 (fs_sub (pmA_s hA rfl) (fs_c (pmO_s hi_3400 rfl) fs_n)) (zX15_keep hF fs_a (fs_o (.head _)) (th_id T_11 r_x0 (k := 16) (i := 32) (w := 2532) e_r_6q4 rfl (by decide)) (th_in _ T_18) r_x0 q_r_6q4 pf_19 p_o_7q4) (fun _ _ _ _ _ p => p) (fun o_2q5 ρ_o_2q5 c_o_2q5 X_o_2q5 T_20 f_o_2q5 p_o_2q5 => ?_)
          have pf_21 : MvP x0 x1 o_7q4 := (mp_fr T_11 r_x0 f_o_7q4 (fun _ => rfl) (fun _ => rfl) (fun _ _ => rfl) rfl rfl rfl (fun _ => rfl) (fun _ => rfl) (fun _ => rfl) (fun _ => rfl) rfl rfl (fun _ => rfl) rfl rfl rfl rfl rfl rfl (fun _ => rfl) (fun _ => rfl) (fun _ => rfl) (fun _ => rfl) (fun _ => rfl) pf_16)
          have pf_22 : SqOk x0 o_2q5.2 := (sq_fr T_18 r_x0 f_o_2q5 (fun _ => rfl) (fun _ => rfl) (fun _ => rfl) (sq_fr T_11 r_x0 f_o_7q4 (fun _ => rfl) (fun _ => rfl) (fun _ => rfl) pf_17))
          have pf_23 : PE r_6q4 o_2q5.2 := (pe_fr T_18 q_r_6q4 f_o_2q5 rfl (by rw [(th_id T_11 r_x0 (k := 16) (i := 32) (w := 2532) e_r_6q4 rfl (by decide))]; rfl) rfl (by rw [(th_id T_11 r_x0 (k := 16) (i := 32) (w := 2532) e_r_6q4 rfl (by decide))]; intro _; rfl) (by rw [(th_id T_11 r_x0 (k := 16) (i := 32) (w := 2532) e_r_6q4 rfl (by decide))]; intro _; rfl) p_o_7q4)
          have i_o_2q5 := p_o_2q5.1
          exact s_some ⟨_, _, X_o_2q5, T_20, i_o_2q5⟩
      · have _ := c_8
        exact s_some ⟨_, _, ex_0, T_1, (rg_m (rg_b rfl : Rg (-102) (-102) ((- 102 : Int32))) (by decide))⟩
set_option maxRecDepth 20000 in
theorem zX15_isDigit {ρ : Nat → Nat} {c : Cm} {F : Nat} (hF : 700000 ≤ F) {h : Hp} {x0 : Int32} (T : TH ρ c h) (i_x0 : Rg (-128) (127) (x0)) : Sat (sX15_isDigit h x0) (ZQ (ZP0 h (0) (1) (0) (Rg (48) (57) (x0))) (fun o => o.1.toInt = 0 → (x0.toInt < 48 ∨ 57 < x0.toInt))) := by
  unfold sX15_isDigit sX15_isDigit_16 sX15_isDigit_17
  refine s_br (fun c_1 => ?_) (fun c_1 => ?_)
  · have _ := c_1
    have i_f_2 : Rg (-128) (47) (x0) := rg_lt1 c_1 i_x0 (rg_b rfl : Rg (48) (48) ((48 : Int32)))
    refine s_gd (rg_bool (rg_m (rg_b rfl : Rg (0) (0) ((0 : Int32))) (by decide))) ?_
    exact s_some ⟨⟨rfl, (rg_m (rg_b rfl : Rg (0) (0) ((0 : Int32))) (by decide)), (fun q => absurd (rz_s (rg_b rfl : Rg (0) (0) ((0 : Int32))) (rg_b rfl : Rg (0) (0) (0 : Int32))) q)⟩, (show ((0 : Int32)).toInt = 0 → (x0.toInt < 48 ∨ 57 < x0.toInt) from (by have : ((0 : Int32)).toInt = 0 := rfl; have := (i_f_2 : Rg (-128) (47) (x0)).1; have := (i_f_2 : Rg (-128) (47) (x0)).2; have := lt_i c_1; have : ((48 : Int32)).toInt = 48 := rfl; omega))⟩
  · have _ := c_1
    have i_f_3 : Rg (48) (127) (x0) := rg_le2 (nlt_le c_1) (rg_b rfl : Rg (48) (48) ((48 : Int32))) i_x0
    refine s_br (fun c_4 => ?_) (fun c_4 => ?_)
    · have _ := c_4
      have i_f_5 : Rg (58) (127) (x0) := rg_lt2 c_4 (rg_b rfl : Rg (57) (57) ((57 : Int32))) i_f_3
      refine s_gd (rg_bool (rg_m (rg_b rfl : Rg (0) (0) ((0 : Int32))) (by decide))) ?_
      exact s_some ⟨⟨rfl, (rg_m (rg_b rfl : Rg (0) (0) ((0 : Int32))) (by decide)), (fun q => absurd (rz_s (rg_b rfl : Rg (0) (0) ((0 : Int32))) (rg_b rfl : Rg (0) (0) (0 : Int32))) q)⟩, (show ((0 : Int32)).toInt = 0 → (x0.toInt < 48 ∨ 57 < x0.toInt) from (by have : ((0 : Int32)).toInt = 0 := rfl; have := (i_f_5 : Rg (58) (127) (x0)).1; have := (i_f_5 : Rg (58) (127) (x0)).2; have := nlt_i c_1; have : ((48 : Int32)).toInt = 48 := rfl; have := lt_i c_4; have : ((57 : Int32)).toInt = 57 := rfl; omega))⟩
    · have _ := c_4
      have i_f_6 : Rg (48) (57) (x0) := rg_le1 (nlt_le c_4) i_f_3 (rg_b rfl : Rg (57) (57) ((57 : Int32)))
      refine s_gd (rg_bool (rg_m (rg_b rfl : Rg (1) (1) ((1 : Int32))) (by decide))) ?_
      exact s_some ⟨⟨rfl, (rg_m (rg_b rfl : Rg (1) (1) ((1 : Int32))) (by decide)), (fun _ => i_f_6)⟩, (show ((1 : Int32)).toInt = 0 → (x0.toInt < 48 ∨ 57 < x0.toInt) from (by have : ((1 : Int32)).toInt = 1 := rfl; have := (i_f_6 : Rg (48) (57) (x0)).1; have := (i_f_6 : Rg (48) (57) (x0)).2; have := nlt_i c_1; have : ((48 : Int32)).toInt = 48 := rfl; have := nlt_i c_4; have : ((57 : Int32)).toInt = 57 := rfl; omega))⟩
set_option maxRecDepth 20000 in
theorem zX15_isSmall {ρ : Nat → Nat} {c : Cm} {F : Nat} (hF : 700000 ≤ F) {h : Hp} {x0 : Int32} (T : TH ρ c h) (i_x0 : Rg (-128) (127) (x0)) : Sat (sX15_isSmall h x0) (ZQ (ZP0 h (0) (1) (0) (Rg (97) (122) (x0))) (fun o => o.1.toInt = 0 → (x0.toInt < 97 ∨ 122 < x0.toInt))) := by
  unfold sX15_isSmall sX15_isSmall_16 sX15_isSmall_17
  refine s_br (fun c_1 => ?_) (fun c_1 => ?_)
  · have _ := c_1
    have i_f_2 : Rg (-128) (96) (x0) := rg_lt1 c_1 i_x0 (rg_b rfl : Rg (97) (97) ((97 : Int32)))
    refine s_gd (rg_bool (rg_m (rg_b rfl : Rg (0) (0) ((0 : Int32))) (by decide))) ?_
    exact s_some ⟨⟨rfl, (rg_m (rg_b rfl : Rg (0) (0) ((0 : Int32))) (by decide)), (fun q => absurd (rz_s (rg_b rfl : Rg (0) (0) ((0 : Int32))) (rg_b rfl : Rg (0) (0) (0 : Int32))) q)⟩, (show ((0 : Int32)).toInt = 0 → (x0.toInt < 97 ∨ 122 < x0.toInt) from (by have : ((0 : Int32)).toInt = 0 := rfl; have := (i_f_2 : Rg (-128) (96) (x0)).1; have := (i_f_2 : Rg (-128) (96) (x0)).2; have := lt_i c_1; have : ((97 : Int32)).toInt = 97 := rfl; omega))⟩
  · have _ := c_1
    have i_f_3 : Rg (97) (127) (x0) := rg_le2 (nlt_le c_1) (rg_b rfl : Rg (97) (97) ((97 : Int32))) i_x0
    refine s_br (fun c_4 => ?_) (fun c_4 => ?_)
    · have _ := c_4
      have i_f_5 : Rg (123) (127) (x0) := rg_lt2 c_4 (rg_b rfl : Rg (122) (122) ((122 : Int32))) i_f_3
      refine s_gd (rg_bool (rg_m (rg_b rfl : Rg (0) (0) ((0 : Int32))) (by decide))) ?_
      exact s_some ⟨⟨rfl, (rg_m (rg_b rfl : Rg (0) (0) ((0 : Int32))) (by decide)), (fun q => absurd (rz_s (rg_b rfl : Rg (0) (0) ((0 : Int32))) (rg_b rfl : Rg (0) (0) (0 : Int32))) q)⟩, (show ((0 : Int32)).toInt = 0 → (x0.toInt < 97 ∨ 122 < x0.toInt) from (by have : ((0 : Int32)).toInt = 0 := rfl; have := (i_f_5 : Rg (123) (127) (x0)).1; have := (i_f_5 : Rg (123) (127) (x0)).2; have := nlt_i c_1; have : ((97 : Int32)).toInt = 97 := rfl; have := lt_i c_4; have : ((122 : Int32)).toInt = 122 := rfl; omega))⟩
    · have _ := c_4
      have i_f_6 : Rg (97) (122) (x0) := rg_le1 (nlt_le c_4) i_f_3 (rg_b rfl : Rg (122) (122) ((122 : Int32)))
      refine s_gd (rg_bool (rg_m (rg_b rfl : Rg (1) (1) ((1 : Int32))) (by decide))) ?_
      exact s_some ⟨⟨rfl, (rg_m (rg_b rfl : Rg (1) (1) ((1 : Int32))) (by decide)), (fun _ => i_f_6)⟩, (show ((1 : Int32)).toInt = 0 → (x0.toInt < 97 ∨ 122 < x0.toInt) from (by have : ((1 : Int32)).toInt = 1 := rfl; have := (i_f_6 : Rg (97) (122) (x0)).1; have := (i_f_6 : Rg (97) (122) (x0)).2; have := nlt_i c_1; have : ((97 : Int32)).toInt = 97 := rfl; have := nlt_i c_4; have : ((122 : Int32)).toInt = 122 := rfl; omega))⟩
set_option maxRecDepth 20000 in
theorem zX15_nextToken_242 {ρ : Nat → Nat} {c : Cm} {F : Nat} {e0 : Int} {n0 : Int} {y1 : Nat} (hF : 700000 ≤ F) (hA : pmA c [(16, 8), (16, 9)]) {h : Hp} {x0 : Nat} {x4 : Int32} {x6 : Int32} {t0 : Int32} {t1 : Nat} (T : TH ρ c h) (r_x0 : ρ x0 = 16) (i_x4 : Rg (45) (57) (x4)) (i_x6 : Rg (0) (1200) (x6)) (i_t0 : Rg (-2147483648) (2147483647) (t0)) (r_t1 : ρ t1 = 16) (k9 : (e0 < x6.toInt ∧ x6.toInt ≤ n0)) (kx : (¬ (hI h x0 6).toInt = 1)) : Sat (sX15_nextToken_242 F h x0 x4 x6 t0 t1) (ZQ (ZV ρ c) (fun o => (e0 ≤ (hI o x0 8).toInt) ∧ ((hI o x0 8).toInt ≤ n0) ∧ ((hI o x0 6).toInt = 4 ∨ e0 < (hI o x0 8).toInt) ∧ (WdP x0 y1 o))) := by
  unfold sX15_nextToken_242 sX15_nextToken_266 sX15_nextToken_308
  refine s_hq (th_wI T r_t1 (k := 16) (lo := (-2147483648)) (hi := (2147483647)) rfl (i_t0 : Rg (-2147483648) (2147483647) (t0)) (by decide) (by decide) (pm_a hA rfl)) (fun h_1 T_1 w_2 => ?_)
  refine s_br (fun c_3 => ?_) (fun c_3 => ?_)
  · have _ := c_3
    have i_f_4 : Rg (45) (45) (x4) := rg_eq c_3 (rg_b rfl : Rg (45) (45) ((45 : Int32)))
    refine s_hq (th_wI T_1 r_x0 (k := 16) (lo := (-2147483648)) (hi := (2147483647)) rfl ((rg_top _ : Rg (-2147483648) (2147483647) (((0 : Int32) - (hI h_1 x0 9)))) : Rg (-2147483648) (2147483647) (((0 : Int32) - (hI h_1 x0 9)))) (by decide) (by decide) (pm_a hA rfl)) (fun h_1q1 T_5 w_6 => ?_)
    refine s_hq (th_wI T_5 r_x0 (k := 16) (lo := (0)) (hi := (1200)) rfl (i_x6 : Rg (0) (1200) (x6)) (by decide) (by decide) (pm_a hA rfl)) (fun h_2q1 T_7 w_8 => ?_)
    exact s_some ⟨(T_7), ⟨(show e0 ≤ (hI h_2q1 x0 8).toInt from (by have hq_ := (((rg_hs w_8 i_x6) : Rg (0) (1200) ((hI h_2q1 x0 8))) : Rg (0) (1200) ((hI h_2q1 x0 8))); have := hq_.1; have := hq_.2; have : (hI h_2q1 x0 8).toInt = (x6 : Int32).toInt := congrArg Int32.toInt (he_s w_8); have := (i_x6 : Rg (0) (1200) (x6)).1; have := (i_x6 : Rg (0) (1200) (x6)).2; have hq_ := ((thI T r_x0 (k := 16) (i := 6) rfl : Rg (0) (5) ((hI h x0 6))) : Rg (0) (5) ((hI h x0 6))); have := hq_.1; have := hq_.2; omega)), (show (hI h_2q1 x0 8).toInt ≤ n0 from (by have hq_ := (((rg_hs w_8 i_x6) : Rg (0) (1200) ((hI h_2q1 x0 8))) : Rg (0) (1200) ((hI h_2q1 x0 8))); have := hq_.1; have := hq_.2; have : (hI h_2q1 x0 8).toInt = (x6 : Int32).toInt := congrArg Int32.toInt (he_s w_8); have := (i_x6 : Rg (0) (1200) (x6)).1; have := (i_x6 : Rg (0) (1200) (x6)).2; have hq_ := ((thI T r_x0 (k := 16) (i := 6) rfl : Rg (0) (5) ((hI h x0 6))) : Rg (0) (5) ((hI h x0 6))); have := hq_.1; have := hq_.2; omega)), (show (hI h_2q1 x0 6).toInt = 4 ∨ e0 < (hI h_2q1 x0 8).toInt from (by have hq_ := ((thI T_7 r_x0 (k := 16) (i := 6) rfl : Rg (0) (5) ((hI h_2q1 x0 6))) : Rg (0) (5) ((hI h_2q1 x0 6))); have := hq_.1; have := hq_.2; have : (hI h_2q1 x0 6).toInt = (hI h_1q1 x0 6).toInt := congrArg Int32.toInt (he_w w_8 (fun q => absurd q.2 (by decide))); have : (hI h_1q1 x0 6).toInt = (hI h_1 x0 6).toInt := congrArg Int32.toInt (he_w w_6 (fun q => absurd q.2 (by decide))); have : (hI h_1 x0 6).toInt = (hI h x0 6).toInt := congrArg Int32.toInt (he_w w_2 (fun q => absurd q.2 (by decide))); have hq_ := (((rg_hs w_8 i_x6) : Rg (0) (1200) ((hI h_2q1 x0 8))) : Rg (0) (1200) ((hI h_2q1 x0 8))); have := hq_.1; have := hq_.2; have : (hI h_2q1 x0 8).toInt = (x6 : Int32).toInt := congrArg Int32.toInt (he_s w_8); have := (i_x6 : Rg (0) (1200) (x6)).1; have := (i_x6 : Rg (0) (1200) (x6)).2; have hq_ := ((thI T r_x0 (k := 16) (i := 6) rfl : Rg (0) (5) ((hI h x0 6))) : Rg (0) (5) ((hI h x0 6))); have := hq_.1; have := hq_.2; omega)), (fun q => absurd q (by have hq_ := ((thI T_7 r_x0 (k := 16) (i := 6) rfl : Rg (0) (5) ((hI h_2q1 x0 6))) : Rg (0) (5) ((hI h_2q1 x0 6))); have := hq_.1; have := hq_.2; have : (hI h_2q1 x0 6).toInt = (hI h_1q1 x0 6).toInt := congrArg Int32.toInt (he_w w_8 (fun q => absurd q.2 (by decide))); have : (hI h_1q1 x0 6).toInt = (hI h_1 x0 6).toInt := congrArg Int32.toInt (he_w w_6 (fun q => absurd q.2 (by decide))); have : (hI h_1 x0 6).toInt = (hI h x0 6).toInt := congrArg Int32.toInt (he_w w_2 (fun q => absurd q.2 (by decide))); have := (i_x6 : Rg (0) (1200) (x6)).1; have := (i_x6 : Rg (0) (1200) (x6)).2; have hq_ := ((thI T r_x0 (k := 16) (i := 6) rfl : Rg (0) (5) ((hI h x0 6))) : Rg (0) (5) ((hI h x0 6))); have := hq_.1; have := hq_.2; omega))⟩⟩
  · have _ := c_3
    have i_f_9 : Rg (46) (57) (x4) := rg_nlo c_3 i_x4 (rg_b rfl : Rg (45) (45) ((45 : Int32)))
    refine s_hq (th_wI T_1 r_x0 (k := 16) (lo := (-2147483648)) (hi := (2147483647)) rfl ((thI T_1 r_x0 (k := 16) (i := 9) rfl : Rg (-2147483648) (2147483647) ((hI h_1 x0 9))) : Rg (-2147483648) (2147483647) ((hI h_1 x0 9))) (by decide) (by decide) (pm_a hA rfl)) (fun h_1q3 T_10 w_11 => ?_)
    refine s_hq (th_wI T_10 r_x0 (k := 16) (lo := (0)) (hi := (1200)) rfl (i_x6 : Rg (0) (1200) (x6)) (by decide) (by decide) (pm_a hA rfl)) (fun h_2q3 T_12 w_13 => ?_)
    exact s_some ⟨(T_12), ⟨(show e0 ≤ (hI h_2q3 x0 8).toInt from (by have hq_ := (((rg_hs w_13 i_x6) : Rg (0) (1200) ((hI h_2q3 x0 8))) : Rg (0) (1200) ((hI h_2q3 x0 8))); have := hq_.1; have := hq_.2; have : (hI h_2q3 x0 8).toInt = (x6 : Int32).toInt := congrArg Int32.toInt (he_s w_13); have := (i_x6 : Rg (0) (1200) (x6)).1; have := (i_x6 : Rg (0) (1200) (x6)).2; have hq_ := ((thI T r_x0 (k := 16) (i := 6) rfl : Rg (0) (5) ((hI h x0 6))) : Rg (0) (5) ((hI h x0 6))); have := hq_.1; have := hq_.2; omega)), (show (hI h_2q3 x0 8).toInt ≤ n0 from (by have hq_ := (((rg_hs w_13 i_x6) : Rg (0) (1200) ((hI h_2q3 x0 8))) : Rg (0) (1200) ((hI h_2q3 x0 8))); have := hq_.1; have := hq_.2; have : (hI h_2q3 x0 8).toInt = (x6 : Int32).toInt := congrArg Int32.toInt (he_s w_13); have := (i_x6 : Rg (0) (1200) (x6)).1; have := (i_x6 : Rg (0) (1200) (x6)).2; have hq_ := ((thI T r_x0 (k := 16) (i := 6) rfl : Rg (0) (5) ((hI h x0 6))) : Rg (0) (5) ((hI h x0 6))); have := hq_.1; have := hq_.2; omega)), (show (hI h_2q3 x0 6).toInt = 4 ∨ e0 < (hI h_2q3 x0 8).toInt from (by have hq_ := ((thI T_12 r_x0 (k := 16) (i := 6) rfl : Rg (0) (5) ((hI h_2q3 x0 6))) : Rg (0) (5) ((hI h_2q3 x0 6))); have := hq_.1; have := hq_.2; have : (hI h_2q3 x0 6).toInt = (hI h_1q3 x0 6).toInt := congrArg Int32.toInt (he_w w_13 (fun q => absurd q.2 (by decide))); have : (hI h_1q3 x0 6).toInt = (hI h_1 x0 6).toInt := congrArg Int32.toInt (he_w w_11 (fun q => absurd q.2 (by decide))); have : (hI h_1 x0 6).toInt = (hI h x0 6).toInt := congrArg Int32.toInt (he_w w_2 (fun q => absurd q.2 (by decide))); have hq_ := (((rg_hs w_13 i_x6) : Rg (0) (1200) ((hI h_2q3 x0 8))) : Rg (0) (1200) ((hI h_2q3 x0 8))); have := hq_.1; have := hq_.2; have : (hI h_2q3 x0 8).toInt = (x6 : Int32).toInt := congrArg Int32.toInt (he_s w_13); have := (i_x6 : Rg (0) (1200) (x6)).1; have := (i_x6 : Rg (0) (1200) (x6)).2; have hq_ := ((thI T r_x0 (k := 16) (i := 6) rfl : Rg (0) (5) ((hI h x0 6))) : Rg (0) (5) ((hI h x0 6))); have := hq_.1; have := hq_.2; omega)), (fun q => absurd q (by have hq_ := ((thI T_12 r_x0 (k := 16) (i := 6) rfl : Rg (0) (5) ((hI h_2q3 x0 6))) : Rg (0) (5) ((hI h_2q3 x0 6))); have := hq_.1; have := hq_.2; have : (hI h_2q3 x0 6).toInt = (hI h_1q3 x0 6).toInt := congrArg Int32.toInt (he_w w_13 (fun q => absurd q.2 (by decide))); have : (hI h_1q3 x0 6).toInt = (hI h_1 x0 6).toInt := congrArg Int32.toInt (he_w w_11 (fun q => absurd q.2 (by decide))); have : (hI h_1 x0 6).toInt = (hI h x0 6).toInt := congrArg Int32.toInt (he_w w_2 (fun q => absurd q.2 (by decide))); have := (i_x6 : Rg (0) (1200) (x6)).1; have := (i_x6 : Rg (0) (1200) (x6)).2; have hq_ := ((thI T r_x0 (k := 16) (i := 6) rfl : Rg (0) (5) ((hI h x0 6))) : Rg (0) (5) ((hI h x0 6))); have := hq_.1; have := hq_.2; omega))⟩⟩
set_option maxRecDepth 20000 in
theorem zX15_nextToken_278 {ρ : Nat → Nat} {c : Cm} {F : Nat} {e0 : Int} {n0 : Int} {y1 : Nat} (hF : 700000 ≤ F) (hA : pmA c [(16, 6), (16, 8)]) {h : Hp} {x0 : Nat} {x3 : Int32} {x4 : Int32} (T : TH ρ c h) (r_x0 : ρ x0 = 16) (i_x3 : Rg (0) (1199) (x3)) (i_x4 : Rg (-128) (127) (x4)) (k8 : (e0 ≤ x3.toInt ∧ x3.toInt < n0)) : Sat (sX15_nextToken_278 F h x0 x3 x4) (ZQ (ZV ρ c) (fun o => (e0 ≤ (hI o x0 8).toInt) ∧ ((hI o x0 8).toInt ≤ n0) ∧ ((hI o x0 6).toInt = 4 ∨ e0 < (hI o x0 8).toInt) ∧ (WdP x0 y1 o))) := by
  unfold sX15_nextToken_278 sX15_nextToken_293 sX15_nextToken_298 sX15_nextToken_308
  refine s_br (fun c_1 => ?_) (fun c_1 => ?_)
  · have _ := c_1
    have i_f_2 : Rg (59) (59) (x4) := rg_eq c_1 (rg_b rfl : Rg (59) (59) ((59 : Int32)))
    refine s_hq (th_wI T r_x0 (k := 16) (lo := (0)) (hi := (5)) rfl ((rg_m (rg_b rfl : Rg (3) (3) ((3 : Int32))) (by decide)) : Rg (0) (5) ((3 : Int32))) (by decide) (by decide) (pm_a hA rfl)) (fun h_1q2 T_3 w_4 => ?_)
    refine s_hq (th_wI T_3 r_x0 (k := 16) (lo := (0)) (hi := (1200)) rfl ((rg_m (rg_add i_x3 (rg_b rfl : Rg (1) (1) ((1 : Int32))) (by decide) : Rg (1) (1200) ((x3 + (1 : Int32)))) (by decide)) : Rg (0) (1200) ((x3 + (1 : Int32)))) (by decide) (by decide) (pm_a hA rfl)) (fun h_2q2 T_5 w_6 => ?_)
    exact s_some ⟨(T_5), ⟨(show e0 ≤ (hI h_2q2 x0 8).toInt from (by have hq_ := (((rg_hs w_6 (rg_add i_x3 (rg_b rfl : Rg (1) (1) ((1 : Int32))) (by decide) : Rg (1) (1200) ((x3 + (1 : Int32))))) : Rg (1) (1200) ((hI h_2q2 x0 8))) : Rg (1) (1200) ((hI h_2q2 x0 8))); have := hq_.1; have := hq_.2; have : (hI h_2q2 x0 8).toInt = ((x3 + (1 : Int32)) : Int32).toInt := congrArg Int32.toInt (he_s w_6); have : ((x3 + (1 : Int32)) : Int32).toInt = (x3 : Int32).toInt + ((1 : Int32) : Int32).toInt := ti_add (i_x3 : Rg (0) (1199) (x3)) ((rg_b rfl : Rg (1) (1) ((1 : Int32))) : Rg (1) (1) ((1 : Int32))) (by decide); have := (i_x3 : Rg (0) (1199) (x3)).1; have := (i_x3 : Rg (0) (1199) (x3)).2; have : ((1 : Int32)).toInt = 1 := rfl; omega)), (show (hI h_2q2 x0 8).toInt ≤ n0 from (by have hq_ := (((rg_hs w_6 (rg_add i_x3 (rg_b rfl : Rg (1) (1) ((1 : Int32))) (by decide) : Rg (1) (1200) ((x3 + (1 : Int32))))) : Rg (1) (1200) ((hI h_2q2 x0 8))) : Rg (1) (1200) ((hI h_2q2 x0 8))); have := hq_.1; have := hq_.2; have : (hI h_2q2 x0 8).toInt = ((x3 + (1 : Int32)) : Int32).toInt := congrArg Int32.toInt (he_s w_6); have : ((x3 + (1 : Int32)) : Int32).toInt = (x3 : Int32).toInt + ((1 : Int32) : Int32).toInt := ti_add (i_x3 : Rg (0) (1199) (x3)) ((rg_b rfl : Rg (1) (1) ((1 : Int32))) : Rg (1) (1) ((1 : Int32))) (by decide); have := (i_x3 : Rg (0) (1199) (x3)).1; have := (i_x3 : Rg (0) (1199) (x3)).2; have : ((1 : Int32)).toInt = 1 := rfl; omega)), (show (hI h_2q2 x0 6).toInt = 4 ∨ e0 < (hI h_2q2 x0 8).toInt from (by have hq_ := (((rg_hw w_6 (fun q => absurd q.2 (by decide)) (rg_hs w_4 (rg_b rfl : Rg (3) (3) ((3 : Int32))))) : Rg (3) (3) ((hI h_2q2 x0 6))) : Rg (3) (3) ((hI h_2q2 x0 6))); have := hq_.1; have := hq_.2; have : (hI h_2q2 x0 6).toInt = (hI h_1q2 x0 6).toInt := congrArg Int32.toInt (he_w w_6 (fun q => absurd q.2 (by decide))); have : (hI h_1q2 x0 6).toInt = ((3 : Int32) : Int32).toInt := congrArg Int32.toInt (he_s w_4); have : ((3 : Int32)).toInt = 3 := rfl; have hq_ := (((rg_hs w_6 (rg_add i_x3 (rg_b rfl : Rg (1) (1) ((1 : Int32))) (by decide) : Rg (1) (1200) ((x3 + (1 : Int32))))) : Rg (1) (1200) ((hI h_2q2 x0 8))) : Rg (1) (1200) ((hI h_2q2 x0 8))); have := hq_.1; have := hq_.2; have : (hI h_2q2 x0 8).toInt = ((x3 + (1 : Int32)) : Int32).toInt := congrArg Int32.toInt (he_s w_6); have : ((x3 + (1 : Int32)) : Int32).toInt = (x3 : Int32).toInt + ((1 : Int32) : Int32).toInt := ti_add (i_x3 : Rg (0) (1199) (x3)) ((rg_b rfl : Rg (1) (1) ((1 : Int32))) : Rg (1) (1) ((1 : Int32))) (by decide); have := (i_x3 : Rg (0) (1199) (x3)).1; have := (i_x3 : Rg (0) (1199) (x3)).2; have : ((1 : Int32)).toInt = 1 := rfl; omega)), (fun q => absurd q (by have hq_ := (((rg_hw w_6 (fun q => absurd q.2 (by decide)) (rg_hs w_4 (rg_b rfl : Rg (3) (3) ((3 : Int32))))) : Rg (3) (3) ((hI h_2q2 x0 6))) : Rg (3) (3) ((hI h_2q2 x0 6))); have := hq_.1; have := hq_.2; have : (hI h_2q2 x0 6).toInt = (hI h_1q2 x0 6).toInt := congrArg Int32.toInt (he_w w_6 (fun q => absurd q.2 (by decide))); have : (hI h_1q2 x0 6).toInt = ((3 : Int32) : Int32).toInt := congrArg Int32.toInt (he_s w_4); have : ((3 : Int32)).toInt = 3 := rfl; have := (i_x3 : Rg (0) (1199) (x3)).1; have := (i_x3 : Rg (0) (1199) (x3)).2; omega))⟩⟩
  · have _ := c_1
    refine s_br (fun c_7 => ?_) (fun c_7 => ?_)
    · have _ := c_7
      have i_f_8 : Rg (44) (44) (x4) := rg_eq c_7 (rg_b rfl : Rg (44) (44) ((44 : Int32)))
      refine s_hq (th_wI T r_x0 (k := 16) (lo := (0)) (hi := (5)) rfl ((rg_m (rg_b rfl : Rg (3) (3) ((3 : Int32))) (by decide)) : Rg (0) (5) ((3 : Int32))) (by decide) (by decide) (pm_a hA rfl)) (fun h_1q5 T_9 w_10 => ?_)
      refine s_hq (th_wI T_9 r_x0 (k := 16) (lo := (0)) (hi := (1200)) rfl ((rg_m (rg_add i_x3 (rg_b rfl : Rg (1) (1) ((1 : Int32))) (by decide) : Rg (1) (1200) ((x3 + (1 : Int32)))) (by decide)) : Rg (0) (1200) ((x3 + (1 : Int32)))) (by decide) (by decide) (pm_a hA rfl)) (fun h_2q5 T_11 w_12 => ?_)
      exact s_some ⟨(T_11), ⟨(show e0 ≤ (hI h_2q5 x0 8).toInt from (by have hq_ := (((rg_hs w_12 (rg_add i_x3 (rg_b rfl : Rg (1) (1) ((1 : Int32))) (by decide) : Rg (1) (1200) ((x3 + (1 : Int32))))) : Rg (1) (1200) ((hI h_2q5 x0 8))) : Rg (1) (1200) ((hI h_2q5 x0 8))); have := hq_.1; have := hq_.2; have : (hI h_2q5 x0 8).toInt = ((x3 + (1 : Int32)) : Int32).toInt := congrArg Int32.toInt (he_s w_12); have : ((x3 + (1 : Int32)) : Int32).toInt = (x3 : Int32).toInt + ((1 : Int32) : Int32).toInt := ti_add (i_x3 : Rg (0) (1199) (x3)) ((rg_b rfl : Rg (1) (1) ((1 : Int32))) : Rg (1) (1) ((1 : Int32))) (by decide); have := (i_x3 : Rg (0) (1199) (x3)).1; have := (i_x3 : Rg (0) (1199) (x3)).2; have : ((1 : Int32)).toInt = 1 := rfl; omega)), (show (hI h_2q5 x0 8).toInt ≤ n0 from (by have hq_ := (((rg_hs w_12 (rg_add i_x3 (rg_b rfl : Rg (1) (1) ((1 : Int32))) (by decide) : Rg (1) (1200) ((x3 + (1 : Int32))))) : Rg (1) (1200) ((hI h_2q5 x0 8))) : Rg (1) (1200) ((hI h_2q5 x0 8))); have := hq_.1; have := hq_.2; have : (hI h_2q5 x0 8).toInt = ((x3 + (1 : Int32)) : Int32).toInt := congrArg Int32.toInt (he_s w_12); have : ((x3 + (1 : Int32)) : Int32).toInt = (x3 : Int32).toInt + ((1 : Int32) : Int32).toInt := ti_add (i_x3 : Rg (0) (1199) (x3)) ((rg_b rfl : Rg (1) (1) ((1 : Int32))) : Rg (1) (1) ((1 : Int32))) (by decide); have := (i_x3 : Rg (0) (1199) (x3)).1; have := (i_x3 : Rg (0) (1199) (x3)).2; have : ((1 : Int32)).toInt = 1 := rfl; omega)), (show (hI h_2q5 x0 6).toInt = 4 ∨ e0 < (hI h_2q5 x0 8).toInt from (by have hq_ := (((rg_hw w_12 (fun q => absurd q.2 (by decide)) (rg_hs w_10 (rg_b rfl : Rg (3) (3) ((3 : Int32))))) : Rg (3) (3) ((hI h_2q5 x0 6))) : Rg (3) (3) ((hI h_2q5 x0 6))); have := hq_.1; have := hq_.2; have : (hI h_2q5 x0 6).toInt = (hI h_1q5 x0 6).toInt := congrArg Int32.toInt (he_w w_12 (fun q => absurd q.2 (by decide))); have : (hI h_1q5 x0 6).toInt = ((3 : Int32) : Int32).toInt := congrArg Int32.toInt (he_s w_10); have : ((3 : Int32)).toInt = 3 := rfl; have hq_ := (((rg_hs w_12 (rg_add i_x3 (rg_b rfl : Rg (1) (1) ((1 : Int32))) (by decide) : Rg (1) (1200) ((x3 + (1 : Int32))))) : Rg (1) (1200) ((hI h_2q5 x0 8))) : Rg (1) (1200) ((hI h_2q5 x0 8))); have := hq_.1; have := hq_.2; have : (hI h_2q5 x0 8).toInt = ((x3 + (1 : Int32)) : Int32).toInt := congrArg Int32.toInt (he_s w_12); have : ((x3 + (1 : Int32)) : Int32).toInt = (x3 : Int32).toInt + ((1 : Int32) : Int32).toInt := ti_add (i_x3 : Rg (0) (1199) (x3)) ((rg_b rfl : Rg (1) (1) ((1 : Int32))) : Rg (1) (1) ((1 : Int32))) (by decide); have := (i_x3 : Rg (0) (1199) (x3)).1; have := (i_x3 : Rg (0) (1199) (x3)).2; have : ((1 : Int32)).toInt = 1 := rfl; omega)), (fun q => absurd q (by have hq_ := (((rg_hw w_12 (fun q => absurd q.2 (by decide)) (rg_hs w_10 (rg_b rfl : Rg (3) (3) ((3 : Int32))))) : Rg (3) (3) ((hI h_2q5 x0 6))) : Rg (3) (3) ((hI h_2q5 x0 6))); have := hq_.1; have := hq_.2; have : (hI h_2q5 x0 6).toInt = (hI h_1q5 x0 6).toInt := congrArg Int32.toInt (he_w w_12 (fun q => absurd q.2 (by decide))); have : (hI h_1q5 x0 6).toInt = ((3 : Int32) : Int32).toInt := congrArg Int32.toInt (he_s w_10); have : ((3 : Int32)).toInt = 3 := rfl; have := (i_x3 : Rg (0) (1199) (x3)).1; have := (i_x3 : Rg (0) (1199) (x3)).2; omega))⟩⟩
    · have _ := c_7
      refine s_hq (th_wI T r_x0 (k := 16) (lo := (0)) (hi := (5)) rfl ((rg_m (rg_b rfl : Rg (5) (5) ((5 : Int32))) (by decide)) : Rg (0) (5) ((5 : Int32))) (by decide) (by decide) (pm_a hA rfl)) (fun h_1q7 T_13 w_14 => ?_)
      refine s_hq (th_wI T_13 r_x0 (k := 16) (lo := (0)) (hi := (1200)) rfl ((rg_m (rg_add i_x3 (rg_b rfl : Rg (1) (1) ((1 : Int32))) (by decide) : Rg (1) (1200) ((x3 + (1 : Int32)))) (by decide)) : Rg (0) (1200) ((x3 + (1 : Int32)))) (by decide) (by decide) (pm_a hA rfl)) (fun h_2q7 T_15 w_16 => ?_)
      exact s_some ⟨(T_15), ⟨(show e0 ≤ (hI h_2q7 x0 8).toInt from (by have hq_ := (((rg_hs w_16 (rg_add i_x3 (rg_b rfl : Rg (1) (1) ((1 : Int32))) (by decide) : Rg (1) (1200) ((x3 + (1 : Int32))))) : Rg (1) (1200) ((hI h_2q7 x0 8))) : Rg (1) (1200) ((hI h_2q7 x0 8))); have := hq_.1; have := hq_.2; have : (hI h_2q7 x0 8).toInt = ((x3 + (1 : Int32)) : Int32).toInt := congrArg Int32.toInt (he_s w_16); have : ((x3 + (1 : Int32)) : Int32).toInt = (x3 : Int32).toInt + ((1 : Int32) : Int32).toInt := ti_add (i_x3 : Rg (0) (1199) (x3)) ((rg_b rfl : Rg (1) (1) ((1 : Int32))) : Rg (1) (1) ((1 : Int32))) (by decide); have := (i_x3 : Rg (0) (1199) (x3)).1; have := (i_x3 : Rg (0) (1199) (x3)).2; have : ((1 : Int32)).toInt = 1 := rfl; omega)), (show (hI h_2q7 x0 8).toInt ≤ n0 from (by have hq_ := (((rg_hs w_16 (rg_add i_x3 (rg_b rfl : Rg (1) (1) ((1 : Int32))) (by decide) : Rg (1) (1200) ((x3 + (1 : Int32))))) : Rg (1) (1200) ((hI h_2q7 x0 8))) : Rg (1) (1200) ((hI h_2q7 x0 8))); have := hq_.1; have := hq_.2; have : (hI h_2q7 x0 8).toInt = ((x3 + (1 : Int32)) : Int32).toInt := congrArg Int32.toInt (he_s w_16); have : ((x3 + (1 : Int32)) : Int32).toInt = (x3 : Int32).toInt + ((1 : Int32) : Int32).toInt := ti_add (i_x3 : Rg (0) (1199) (x3)) ((rg_b rfl : Rg (1) (1) ((1 : Int32))) : Rg (1) (1) ((1 : Int32))) (by decide); have := (i_x3 : Rg (0) (1199) (x3)).1; have := (i_x3 : Rg (0) (1199) (x3)).2; have : ((1 : Int32)).toInt = 1 := rfl; omega)), (show (hI h_2q7 x0 6).toInt = 4 ∨ e0 < (hI h_2q7 x0 8).toInt from (by have hq_ := (((rg_hw w_16 (fun q => absurd q.2 (by decide)) (rg_hs w_14 (rg_b rfl : Rg (5) (5) ((5 : Int32))))) : Rg (5) (5) ((hI h_2q7 x0 6))) : Rg (5) (5) ((hI h_2q7 x0 6))); have := hq_.1; have := hq_.2; have : (hI h_2q7 x0 6).toInt = (hI h_1q7 x0 6).toInt := congrArg Int32.toInt (he_w w_16 (fun q => absurd q.2 (by decide))); have : (hI h_1q7 x0 6).toInt = ((5 : Int32) : Int32).toInt := congrArg Int32.toInt (he_s w_14); have : ((5 : Int32)).toInt = 5 := rfl; have hq_ := (((rg_hs w_16 (rg_add i_x3 (rg_b rfl : Rg (1) (1) ((1 : Int32))) (by decide) : Rg (1) (1200) ((x3 + (1 : Int32))))) : Rg (1) (1200) ((hI h_2q7 x0 8))) : Rg (1) (1200) ((hI h_2q7 x0 8))); have := hq_.1; have := hq_.2; have : (hI h_2q7 x0 8).toInt = ((x3 + (1 : Int32)) : Int32).toInt := congrArg Int32.toInt (he_s w_16); have : ((x3 + (1 : Int32)) : Int32).toInt = (x3 : Int32).toInt + ((1 : Int32) : Int32).toInt := ti_add (i_x3 : Rg (0) (1199) (x3)) ((rg_b rfl : Rg (1) (1) ((1 : Int32))) : Rg (1) (1) ((1 : Int32))) (by decide); have := (i_x3 : Rg (0) (1199) (x3)).1; have := (i_x3 : Rg (0) (1199) (x3)).2; have : ((1 : Int32)).toInt = 1 := rfl; omega)), (fun q => absurd q (by have hq_ := (((rg_hw w_16 (fun q => absurd q.2 (by decide)) (rg_hs w_14 (rg_b rfl : Rg (5) (5) ((5 : Int32))))) : Rg (5) (5) ((hI h_2q7 x0 6))) : Rg (5) (5) ((hI h_2q7 x0 6))); have := hq_.1; have := hq_.2; have : (hI h_2q7 x0 6).toInt = (hI h_1q7 x0 6).toInt := congrArg Int32.toInt (he_w w_16 (fun q => absurd q.2 (by decide))); have : (hI h_1q7 x0 6).toInt = ((5 : Int32) : Int32).toInt := congrArg Int32.toInt (he_s w_14); have : ((5 : Int32)).toInt = 5 := rfl; have := (i_x3 : Rg (0) (1199) (x3)).1; have := (i_x3 : Rg (0) (1199) (x3)).2; omega))⟩⟩
set_option maxRecDepth 20000 in
theorem zX15_nextToken_77 {ρ : Nat → Nat} {c : Cm} {F : Nat} {e0 : Int} {n0 : Int} {y1 : Nat} (hF : 700000 ≤ F) (hA : pmA c [(16, 6), (16, 8)]) : ∀ (f : Nat) {h : Hp} {x0 : Nat} {x1 : Nat} {x2 : Int32} {x3 : Int32}, TH ρ c h → ρ x0 = 16 → ρ x1 = 82 → Rg (1) (1200) (x2) → Rg (0) (1200) (x3) → (x2.toInt = n0) → ((e0 ≤ x3.toInt ∧ x3.toInt ≤ n0) ∧ (e0 < x3.toInt ∨ (x3.toInt < n0 ∧ 97 ≤ (hI h x1 x3.toNatClampNeg).toInt ∧ (hI h x1 x3.toNatClampNeg).toInt ≤ 122))) → (x1 = y1) → (Ta x0 x1 h) → (1200 - x3.toInt).toNat < f → Sat (sX15_nextToken_77 F f h x0 x1 x2 x3) (ZQ (ZV ρ c) (fun o => (e0 ≤ (hI o x0 8).toInt) ∧ ((hI o x0 8).toInt ≤ n0) ∧ ((hI o x0 6).toInt = 4 ∨ e0 < (hI o x0 8).toInt) ∧ (WdP x0 y1 o))) := by
  intro f
  induction f with
  | zero => intros; omega
  | succ f ih =>
    intro h x0 x1 x2 x3 T r_x0 r_x1 i_x2 i_x3 en k7 ey ta hm
    rw [sX15_nextToken_77]
    unfold sX15_nextToken_308
    obtain ⟨C_77, hC_77⟩ : ∃ C : Int, C = x3.toInt := ⟨_, rfl⟩
    have hk_77 : ∀ {h : Hp} {x0 : Nat} {x1 : Nat} {x2 : Int32} {x3 : Int32}, TH ρ c h → ρ x0 = 16 → ρ x1 = 82 → Rg (1) (1200) (x2) → Rg (0) (1200) (x3) → (x2.toInt = n0) → ((e0 ≤ x3.toInt ∧ x3.toInt ≤ n0) ∧ (e0 < x3.toInt ∨ (x3.toInt < n0 ∧ 97 ≤ (hI h x1 x3.toNatClampNeg).toInt ∧ (hI h x1 x3.toNatClampNeg).toInt ≤ 122))) → (x1 = y1) → (Ta x0 x1 h) → C_77 < x3.toInt → Sat (sX15_nextToken_77 F f h x0 x1 x2 x3) (ZQ (ZV ρ c) (fun o => (e0 ≤ (hI o x0 8).toInt) ∧ ((hI o x0 8).toInt ≤ n0) ∧ ((hI o x0 6).toInt = 4 ∨ e0 < (hI o x0 8).toInt) ∧ (WdP x0 y1 o))) := by
      intro h' x0' x1' x2' x3' T' r_x0' r_x1' i_x2' i_x3' en' k7' ey' ta' hl
      exact ih T' r_x0' r_x1' i_x2' i_x3' en' k7' ey' ta' (by have := i_x3'.1; have := i_x3'.2; omega)
    have hc_77 : C_77 ≤ x3.toInt := by omega
    refine s_dP0q (zX15_byteAt hF T r_x0 r_x1 (rg_m i_x2 (by decide)) (rg_m i_x3 (by decide))) (fun o_1 eb_o_1 e_o_1 i_o_1 p_o_1 pp_o_1 => ?_)
    have pq_o_1_0 : (x3).toInt < (x2).toInt → o_1.1.toInt = (hI h x1 (x3).toNatClampNeg).toInt := pp_o_1.1
    have pq_o_1_1 : (x2).toInt ≤ (x3).toInt → o_1.1.toInt = -1 := pp_o_1.2
    have T_1 := th_eq e_o_1 T
    refine s_dP0q (zX15_isSmall hF T_1 i_o_1) (fun o_2 eb_o_2 e_o_2 i_o_2 p_o_2 pp_o_2 => ?_)
    have pq_o_2_0 : o_2.1.toInt = 0 → ((o_1.1).toInt < 97 ∨ 122 < (o_1.1).toInt) := pp_o_2
    have T_2 := th_eq e_o_2 T_1
    refine s_br (fun c_3 => ?_) (fun c_3 => ?_)
    · have _ := c_3
      have i_f_4 : Rg (0) (0) (o_2.1) := rg_eq c_3 (rg_b rfl : Rg (0) (0) (0 : Int32))
      refine s_hq (th_wI T_2 r_x0 (k := 16) (lo := (0)) (hi := (5)) rfl ((rg_m (rg_b rfl : Rg (1) (1) ((1 : Int32))) (by decide)) : Rg (0) (5) ((1 : Int32))) (by decide) (by decide) (pm_a hA rfl)) (fun h_4 T_5 w_6 => ?_)
      refine s_hq (th_wI T_5 r_x0 (k := 16) (lo := (0)) (hi := (1200)) rfl (i_x3 : Rg (0) (1200) (x3)) (by decide) (by decide) (pm_a hA rfl)) (fun h_5 T_7 w_8 => ?_)
      have pf_9 : Ta x0 x1 h_5 := (ta_fr T_5 r_x0 r_x1 (fr1I (A := [(16, 8)]) r_x0 rfl w_8) (fun _ => rfl) (fun _ _ => rfl) (ta_fr T_2 r_x0 r_x1 (fr1I (A := [(16, 6)]) r_x0 rfl w_6) (fun _ => rfl) (fun _ _ => rfl) (by rw [e_o_2]; exact (by rw [e_o_1]; exact ta))))
      exact s_some ⟨(T_7), ⟨(show e0 ≤ (hI h_5 x0 8).toInt from (by have hq_ := (((rg_hs w_8 i_x3) : Rg (0) (1200) ((hI h_5 x0 8))) : Rg (0) (1200) ((hI h_5 x0 8))); have := hq_.1; have := hq_.2; have : (hI h_5 x0 8).toInt = (x3 : Int32).toInt := congrArg Int32.toInt (he_s w_8); have := (i_x3 : Rg (0) (1200) (x3)).1; have := (i_x3 : Rg (0) (1200) (x3)).2; have := (i_x2 : Rg (1) (1200) (x2)).1; have := (i_x2 : Rg (1) (1200) (x2)).2; have hq_ := ((thI T r_x1 (k := 82) rfl : Rg (-128) (127) ((hI h x1 x3.toNatClampNeg))) : Rg (-128) (127) ((hI h x1 x3.toNatClampNeg))); have := hq_.1; have := hq_.2; have := (i_o_1 : Rg (-128) (127) (o_1.1)).1; have := (i_o_1 : Rg (-128) (127) (o_1.1)).2; have := (i_f_4 : Rg (0) (0) (o_2.1)).1; have := (i_f_4 : Rg (0) (0) (o_2.1)).2; have : (o_1.1).toInt = -1 ∨ (0 ≤ (x3).toInt ∧ (x3).toInt ≤ 1199) := p1_or p_o_1; have : (o_2.1).toInt = 0 ∨ (97 ≤ (o_1.1).toInt ∧ (o_1.1).toInt ≤ 122) := p1_or p_o_2; have := eq_i c_3; have : (0 : Int32).toInt = 0 := rfl; omega)), (show (hI h_5 x0 8).toInt ≤ n0 from (by have hq_ := (((rg_hs w_8 i_x3) : Rg (0) (1200) ((hI h_5 x0 8))) : Rg (0) (1200) ((hI h_5 x0 8))); have := hq_.1; have := hq_.2; have : (hI h_5 x0 8).toInt = (x3 : Int32).toInt := congrArg Int32.toInt (he_s w_8); have := (i_x3 : Rg (0) (1200) (x3)).1; have := (i_x3 : Rg (0) (1200) (x3)).2; have := (i_x2 : Rg (1) (1200) (x2)).1; have := (i_x2 : Rg (1) (1200) (x2)).2; have hq_ := ((thI T r_x1 (k := 82) rfl : Rg (-128) (127) ((hI h x1 x3.toNatClampNeg))) : Rg (-128) (127) ((hI h x1 x3.toNatClampNeg))); have := hq_.1; have := hq_.2; have := (i_o_1 : Rg (-128) (127) (o_1.1)).1; have := (i_o_1 : Rg (-128) (127) (o_1.1)).2; have := (i_f_4 : Rg (0) (0) (o_2.1)).1; have := (i_f_4 : Rg (0) (0) (o_2.1)).2; have : (o_1.1).toInt = -1 ∨ (0 ≤ (x3).toInt ∧ (x3).toInt ≤ 1199) := p1_or p_o_1; have : (o_2.1).toInt = 0 ∨ (97 ≤ (o_1.1).toInt ∧ (o_1.1).toInt ≤ 122) := p1_or p_o_2; have := eq_i c_3; have : (0 : Int32).toInt = 0 := rfl; omega)), (show (hI h_5 x0 6).toInt = 4 ∨ e0 < (hI h_5 x0 8).toInt from (by have hq_ := (((rg_hw w_8 (fun q => absurd q.2 (by decide)) (rg_hs w_6 (rg_b rfl : Rg (1) (1) ((1 : Int32))))) : Rg (1) (1) ((hI h_5 x0 6))) : Rg (1) (1) ((hI h_5 x0 6))); have := hq_.1; have := hq_.2; have : (hI h_5 x0 6).toInt = (hI h_4 x0 6).toInt := congrArg Int32.toInt (he_w w_8 (fun q => absurd q.2 (by decide))); have : (hI h_4 x0 6).toInt = ((1 : Int32) : Int32).toInt := congrArg Int32.toInt (he_s w_6); have : ((1 : Int32)).toInt = 1 := rfl; have hq_ := (((rg_hs w_8 i_x3) : Rg (0) (1200) ((hI h_5 x0 8))) : Rg (0) (1200) ((hI h_5 x0 8))); have := hq_.1; have := hq_.2; have : (hI h_5 x0 8).toInt = (x3 : Int32).toInt := congrArg Int32.toInt (he_s w_8); have := (i_x3 : Rg (0) (1200) (x3)).1; have := (i_x3 : Rg (0) (1200) (x3)).2; have := (i_x2 : Rg (1) (1200) (x2)).1; have := (i_x2 : Rg (1) (1200) (x2)).2; have hq_ := ((thI T r_x1 (k := 82) rfl : Rg (-128) (127) ((hI h x1 x3.toNatClampNeg))) : Rg (-128) (127) ((hI h x1 x3.toNatClampNeg))); have := hq_.1; have := hq_.2; have := (i_o_1 : Rg (-128) (127) (o_1.1)).1; have := (i_o_1 : Rg (-128) (127) (o_1.1)).2; have := (i_f_4 : Rg (0) (0) (o_2.1)).1; have := (i_f_4 : Rg (0) (0) (o_2.1)).2; have : (o_1.1).toInt = -1 ∨ (0 ≤ (x3).toInt ∧ (x3).toInt ≤ 1199) := p1_or p_o_1; have : (o_2.1).toInt = 0 ∨ (97 ≤ (o_1.1).toInt ∧ (o_1.1).toInt ≤ 122) := p1_or p_o_2; have := eq_i c_3; have : (0 : Int32).toInt = 0 := rfl; omega)), (by rw [← ey]; exact ta_wd pf_9)⟩⟩
    · have _ := c_3
      have i_f_10 : Rg (1) (1) (o_2.1) := rg_nlo c_3 i_o_2 (rg_b rfl : Rg (0) (0) (0 : Int32))
      have p_f_11 := p_o_2 c_3
      have p_f_12 := p_o_1 (fun q => rc_eq q p_f_11 (rg_b rfl : Rg (-1) (-1) (-1 : Int32)) (by decide))
      refine s_q (fun v_6 e_13 => ?_)
      have i_v_6 : Rg (1) (1200) (v_6) := by rw [e_13]; exact (rg_add p_f_12 (rg_b rfl : Rg (1) (1) ((1 : Int32))) (by decide) : Rg (1) (1200) (x3 + (1 : Int32)))
      have pf_14 : Ta x0 x1 o_2.2 := (by rw [e_o_2]; exact (by rw [e_o_1]; exact ta))
      have m_15 : (v_6).toInt = x3.toInt + 1 := by rw [e_13]; exact rg_inc p_f_12 (by decide)
      exact hk_77 T_2 r_x0 r_x1 i_x2 (rg_m i_v_6 (by decide)) en (show (e0 ≤ (v_6).toInt ∧ (v_6).toInt ≤ n0) ∧ (e0 < (v_6).toInt ∨ ((v_6).toInt < n0 ∧ 97 ≤ (hI o_2.2 x1 (v_6).toNatClampNeg).toInt ∧ (hI o_2.2 x1 (v_6).toNatClampNeg).toInt ≤ 122)) from (by have := (i_v_6 : Rg (1) (1200) (v_6)).1; have := (i_v_6 : Rg (1) (1200) (v_6)).2; have : (v_6).toInt = (x3 + (1 : Int32) : Int32).toInt := congrArg Int32.toInt e_13; have : (x3 + (1 : Int32) : Int32).toInt = (x3 : Int32).toInt + ((1 : Int32) : Int32).toInt := ti_add (p_f_12 : Rg (0) (1199) (x3)) ((rg_b rfl : Rg (1) (1) ((1 : Int32))) : Rg (1) (1) ((1 : Int32))) (by decide); have := (p_f_12 : Rg (0) (1199) (x3)).1; have := (p_f_12 : Rg (0) (1199) (x3)).2; have : ((1 : Int32)).toInt = 1 := rfl; have hq_ := ((thI T_2 r_x1 (k := 82) rfl : Rg (-128) (127) ((hI o_2.2 x1 v_6.toNatClampNeg))) : Rg (-128) (127) ((hI o_2.2 x1 v_6.toNatClampNeg))); have := hq_.1; have := hq_.2; have : (hI o_2.2 x1 v_6.toNatClampNeg).toInt = (hI o_1.2 x1 v_6.toNatClampNeg).toInt := congrArg Int32.toInt (he_e e_o_2); have : (hI o_1.2 x1 v_6.toNatClampNeg).toInt = (hI h x1 v_6.toNatClampNeg).toInt := congrArg Int32.toInt (he_e e_o_1); have := (i_x2 : Rg (1) (1200) (x2)).1; have := (i_x2 : Rg (1) (1200) (x2)).2; have hq_ := ((thI T r_x1 (k := 82) rfl : Rg (-128) (127) ((hI h x1 x3.toNatClampNeg))) : Rg (-128) (127) ((hI h x1 x3.toNatClampNeg))); have := hq_.1; have := hq_.2; have := (p_f_11 : Rg (97) (122) (o_1.1)).1; have := (p_f_11 : Rg (97) (122) (o_1.1)).2; have := (i_f_10 : Rg (1) (1) (o_2.1)).1; have := (i_f_10 : Rg (1) (1) (o_2.1)).2; have := ne_i c_3; have : (0 : Int32).toInt = 0 := rfl; omega)) ey pf_14 (by have := hc_77; omega)
set_option maxRecDepth 20000 in
theorem zX15_nextToken_194 {ρ : Nat → Nat} {c : Cm} {F : Nat} {e0 : Int} {n0 : Int} {y1 : Nat} (hF : 700000 ≤ F) (hA : pmA c [(16, 6), (16, 8), (16, 9)]) {h : Hp} {x0 : Nat} {x1 : Nat} {x4 : Int32} {x5 : Int32} {x6 : Int32} {t0 : Int32} {t1 : Nat} (T : TH ρ c h) (r_x0 : ρ x0 = 16) (r_x1 : ρ x1 = 82) (i_x4 : Rg (45) (57) (x4)) (i_x5 : Rg (0) (1199) (x5)) (i_x6 : Rg (0) (1200) (x6)) (i_t0 : Rg (2) (5) (t0)) (r_t1 : ρ t1 = 16) (k9 : (e0 < x6.toInt ∧ x6.toInt ≤ n0)) (ey : (x1 = y1)) (et : (t1 = x0)) : Sat (sX15_nextToken_194 F h x0 x1 x4 x5 x6 t0 t1) (ZQ (ZV ρ c) (fun o => (e0 ≤ (hI o x0 8).toInt) ∧ ((hI o x0 8).toInt ≤ n0) ∧ ((hI o x0 6).toInt = 4 ∨ e0 < (hI o x0 8).toInt) ∧ (WdP x0 y1 o))) := by
  unfold sX15_nextToken_194 
  refine s_hq (th_wI T r_t1 (k := 16) (lo := (0)) (hi := (5)) rfl ((rg_m i_t0 (by decide)) : Rg (0) (5) (t0)) (by decide) (by decide) (pm_a hA rfl)) (fun h_1 T_1 w_2 => ?_)
  refine s_gd (by rw [thN T_1 r_x1 (k := 82) (n := 1220) rfl (by decide)]; exact rg_inB ((rg_m i_x5 (by decide)) : Rg (0) (1219) (x5)) (by decide)) ?_
  refine s_hq (th_wI T_1 r_x0 (k := 16) (lo := (-2147483648)) (hi := (2147483647)) rfl ((rg_m (rg_sub (thI T_1 r_x1 (k := 82) rfl : Rg (-128) (127) ((hI h_1 x1 x5.toNatClampNeg))) (rg_b rfl : Rg (48) (48) ((48 : Int32))) (by decide) : Rg (-176) (79) (((hI h_1 x1 x5.toNatClampNeg) - (48 : Int32)))) (by decide)) : Rg (-2147483648) (2147483647) (((hI h_1 x1 x5.toNatClampNeg) - (48 : Int32)))) (by decide) (by decide) (pm_a hA rfl)) (fun h_3 T_3 w_4 => ?_)
  refine s_br (fun c_5 => ?_) (fun c_5 => ?_)
  · have _ := c_5
    have i_f_6 : Rg (2) (2) ((x6 - x5)) := rg_eq c_5 (rg_b rfl : Rg (2) (2) ((2 : Int32)))
    refine s_gd (by rw [thN T_3 r_x1 (k := 82) (n := 1220) rfl (by decide)]; exact rg_inB ((rg_m (rg_add i_x5 (rg_b rfl : Rg (1) (1) ((1 : Int32))) (by decide) : Rg (1) (1200) ((x5 + (1 : Int32)))) (by decide)) : Rg (0) (1219) ((x5 + (1 : Int32)))) (by decide)) ?_
    exact zX15_nextToken_242 hF (pmA_s hA rfl) T_3 r_x0 i_x4 i_x6 (rg_m (rg_sub (rg_add (rg_mulc' (rg_b rfl : Rg (10) (10) ((10 : Int32))) ((rg_hs w_4 (rg_sub (thI T_1 r_x1 (k := 82) rfl : Rg (-128) (127) ((hI h_1 x1 x5.toNatClampNeg))) (rg_b rfl : Rg (48) (48) ((48 : Int32))) (by decide) : Rg (-176) (79) (((hI h_1 x1 x5.toNatClampNeg) - (48 : Int32))))) : Rg (-176) (79) ((hI h_3 x0 9))) (by decide) : Rg (-1760) (790) (((10 : Int32) * (hI h_3 x0 9)))) (thI T_3 r_x1 (k := 82) rfl : Rg (-128) (127) ((hI h_3 x1 (x5 + (1 : Int32)).toNatClampNeg))) (by decide) : Rg (-1888) (917) ((((10 : Int32) * (hI h_3 x0 9)) + (hI h_3 x1 (x5 + (1 : Int32)).toNatClampNeg)))) (rg_b rfl : Rg (48) (48) ((48 : Int32))) (by decide) : Rg (-1936) (869) (((((10 : Int32) * (hI h_3 x0 9)) + (hI h_3 x1 (x5 + (1 : Int32)).toNatClampNeg)) - (48 : Int32)))) (by decide)) r_x0 k9 (show ¬ (hI h_3 x0 6).toInt = 1 from (by have hq_ := ((thI T_3 r_x0 (k := 16) (i := 6) rfl : Rg (0) (5) ((hI h_3 x0 6))) : Rg (0) (5) ((hI h_3 x0 6))); have := hq_.1; have := hq_.2; have : (hI h_3 x0 6).toInt = (hI h_1 x0 6).toInt := congrArg Int32.toInt (he_w w_4 (fun q => absurd q.2 (by decide))); have : (hI h_1 x0 6).toInt = (t0 : Int32).toInt := congrArg Int32.toInt (he_sq et w_2); have := (i_t0 : Rg (2) (5) (t0)).1; have := (i_t0 : Rg (2) (5) (t0)).2; have := (i_x6 : Rg (0) (1200) (x6)).1; have := (i_x6 : Rg (0) (1200) (x6)).2; have := eq_i c_5; have : ((x6 - x5) : Int32).toInt = (x6 : Int32).toInt - (x5 : Int32).toInt := ti_sub (i_x6 : Rg (0) (1200) (x6)) (i_x5 : Rg (0) (1199) (x5)) (by decide); have := (i_x5 : Rg (0) (1199) (x5)).1; have := (i_x5 : Rg (0) (1199) (x5)).2; have : ((2 : Int32)).toInt = 2 := rfl; omega))
  · have _ := c_5
    exact zX15_nextToken_242 hF (pmA_s hA rfl) T_3 r_x0 i_x4 i_x6 (rg_m ((rg_hs w_4 (rg_sub (thI T_1 r_x1 (k := 82) rfl : Rg (-128) (127) ((hI h_1 x1 x5.toNatClampNeg))) (rg_b rfl : Rg (48) (48) ((48 : Int32))) (by decide) : Rg (-176) (79) (((hI h_1 x1 x5.toNatClampNeg) - (48 : Int32))))) : Rg (-176) (79) ((hI h_3 x0 9))) (by decide)) r_x0 k9 (show ¬ (hI h_3 x0 6).toInt = 1 from (by have hq_ := ((thI T_3 r_x0 (k := 16) (i := 6) rfl : Rg (0) (5) ((hI h_3 x0 6))) : Rg (0) (5) ((hI h_3 x0 6))); have := hq_.1; have := hq_.2; have : (hI h_3 x0 6).toInt = (hI h_1 x0 6).toInt := congrArg Int32.toInt (he_w w_4 (fun q => absurd q.2 (by decide))); have : (hI h_1 x0 6).toInt = (t0 : Int32).toInt := congrArg Int32.toInt (he_sq et w_2); have := (i_t0 : Rg (2) (5) (t0)).1; have := (i_t0 : Rg (2) (5) (t0)).2; have := (i_x6 : Rg (0) (1200) (x6)).1; have := (i_x6 : Rg (0) (1200) (x6)).2; have := ne_i c_5; have : ((x6 - x5) : Int32).toInt = (x6 : Int32).toInt - (x5 : Int32).toInt := ti_sub (i_x6 : Rg (0) (1200) (x6)) (i_x5 : Rg (0) (1199) (x5)) (by decide); have := (i_x5 : Rg (0) (1199) (x5)).1; have := (i_x5 : Rg (0) (1199) (x5)).2; have : ((2 : Int32)).toInt = 2 := rfl; omega))
set_option maxRecDepth 20000 in
theorem zX15_nextToken_159 {ρ : Nat → Nat} {c : Cm} {F : Nat} {e0 : Int} {n0 : Int} {y1 : Nat} (hF : 700000 ≤ F) (hA : pmA c [(16, 6), (16, 8), (16, 9)]) : ∀ (f : Nat) {h : Hp} {x0 : Nat} {x1 : Nat} {x2 : Int32} {x4 : Int32} {x5 : Int32} {x6 : Int32}, TH ρ c h → ρ x0 = 16 → ρ x1 = 82 → Rg (1) (1200) (x2) → Rg (45) (57) (x4) → Rg (0) (1199) (x5) → Rg (0) (1200) (x6) → (x2.toInt = n0) → ((e0 ≤ x5.toInt ∧ x5.toInt ≤ x6.toInt ∧ x6.toInt ≤ n0) ∧ (e0 < x6.toInt ∨ (x6.toInt < n0 ∧ 48 ≤ (hI h x1 x6.toNatClampNeg).toInt ∧ (hI h x1 x6.toNatClampNeg).toInt ≤ 57))) → (x1 = y1) → (1200 - x6.toInt).toNat < f → Sat (sX15_nextToken_159 F f h x0 x1 x2 x4 x5 x6) (ZQ (ZV ρ c) (fun o => (e0 ≤ (hI o x0 8).toInt) ∧ ((hI o x0 8).toInt ≤ n0) ∧ ((hI o x0 6).toInt = 4 ∨ e0 < (hI o x0 8).toInt) ∧ (WdP x0 y1 o))) := by
  intro f
  induction f with
  | zero => intros; omega
  | succ f ih =>
    intro h x0 x1 x2 x4 x5 x6 T r_x0 r_x1 i_x2 i_x4 i_x5 i_x6 en kd ey hm
    rw [sX15_nextToken_159]
    obtain ⟨C_159, hC_159⟩ : ∃ C : Int, C = x6.toInt := ⟨_, rfl⟩
    have hk_159 : ∀ {h : Hp} {x0 : Nat} {x1 : Nat} {x2 : Int32} {x4 : Int32} {x5 : Int32} {x6 : Int32}, TH ρ c h → ρ x0 = 16 → ρ x1 = 82 → Rg (1) (1200) (x2) → Rg (45) (57) (x4) → Rg (0) (1199) (x5) → Rg (0) (1200) (x6) → (x2.toInt = n0) → ((e0 ≤ x5.toInt ∧ x5.toInt ≤ x6.toInt ∧ x6.toInt ≤ n0) ∧ (e0 < x6.toInt ∨ (x6.toInt < n0 ∧ 48 ≤ (hI h x1 x6.toNatClampNeg).toInt ∧ (hI h x1 x6.toNatClampNeg).toInt ≤ 57))) → (x1 = y1) → C_159 < x6.toInt → Sat (sX15_nextToken_159 F f h x0 x1 x2 x4 x5 x6) (ZQ (ZV ρ c) (fun o => (e0 ≤ (hI o x0 8).toInt) ∧ ((hI o x0 8).toInt ≤ n0) ∧ ((hI o x0 6).toInt = 4 ∨ e0 < (hI o x0 8).toInt) ∧ (WdP x0 y1 o))) := by
      intro h' x0' x1' x2' x4' x5' x6' T' r_x0' r_x1' i_x2' i_x4' i_x5' i_x6' en' kd' ey' hl
      exact ih T' r_x0' r_x1' i_x2' i_x4' i_x5' i_x6' en' kd' ey' (by have := i_x6'.1; have := i_x6'.2; omega)
    have hc_159 : C_159 ≤ x6.toInt := by omega
    refine s_dP0q (zX15_byteAt hF T r_x0 r_x1 (rg_m i_x2 (by decide)) (rg_m i_x6 (by decide))) (fun o_1 eb_o_1 e_o_1 i_o_1 p_o_1 pp_o_1 => ?_)
    have pq_o_1_0 : (x6).toInt < (x2).toInt → o_1.1.toInt = (hI h x1 (x6).toNatClampNeg).toInt := pp_o_1.1
    have pq_o_1_1 : (x2).toInt ≤ (x6).toInt → o_1.1.toInt = -1 := pp_o_1.2
    have T_1 := th_eq e_o_1 T
    refine s_dP0q (zX15_isDigit hF T_1 i_o_1) (fun o_2 eb_o_2 e_o_2 i_o_2 p_o_2 pp_o_2 => ?_)
    have pq_o_2_0 : o_2.1.toInt = 0 → ((o_1.1).toInt < 48 ∨ 57 < (o_1.1).toInt) := pp_o_2
    have T_2 := th_eq e_o_2 T_1
    refine s_br (fun c_3 => ?_) (fun c_3 => ?_)
    · have _ := c_3
      have i_f_4 : Rg (0) (0) (o_2.1) := rg_eq c_3 (rg_b rfl : Rg (0) (0) (0 : Int32))
      refine s_br (fun c_5 => ?_) (fun c_5 => ?_)
      · have _ := c_5
        have i_f_6 : Rg (3) (1200) ((x6 - x5)) := rg_lt2 c_5 (rg_b rfl : Rg (2) (2) ((2 : Int32))) (rg_sub i_x6 i_x5 (by decide) : Rg (-1199) (1200) ((x6 - x5)))
        exact zX15_nextToken_194 hF (pmA_s hA rfl) T_2 r_x0 r_x1 i_x4 i_x5 i_x6 (rg_m (rg_b rfl : Rg (5) (5) ((5 : Int32))) (by decide)) r_x0 (show e0 < (x6).toInt ∧ (x6).toInt ≤ n0 from (by have := (i_x6 : Rg (0) (1200) (x6)).1; have := (i_x6 : Rg (0) (1200) (x6)).2; have := (i_x2 : Rg (1) (1200) (x2)).1; have := (i_x2 : Rg (1) (1200) (x2)).2; have hq_ := ((thI T r_x1 (k := 82) rfl : Rg (-128) (127) ((hI h x1 x6.toNatClampNeg))) : Rg (-128) (127) ((hI h x1 x6.toNatClampNeg))); have := hq_.1; have := hq_.2; have := (i_x5 : Rg (0) (1199) (x5)).1; have := (i_x5 : Rg (0) (1199) (x5)).2; have := (i_o_1 : Rg (-128) (127) (o_1.1)).1; have := (i_o_1 : Rg (-128) (127) (o_1.1)).2; have := (i_f_4 : Rg (0) (0) (o_2.1)).1; have := (i_f_4 : Rg (0) (0) (o_2.1)).2; have : (o_1.1).toInt = -1 ∨ (0 ≤ (x6).toInt ∧ (x6).toInt ≤ 1199) := p1_or p_o_1; have : (o_2.1).toInt = 0 ∨ (48 ≤ (o_1.1).toInt ∧ (o_1.1).toInt ≤ 57) := p1_or p_o_2; have := eq_i c_3; have : (0 : Int32).toInt = 0 := rfl; have := lt_i c_5; have : ((2 : Int32)).toInt = 2 := rfl; have : ((x6 - x5) : Int32).toInt = (x6 : Int32).toInt - (x5 : Int32).toInt := ti_sub (i_x6 : Rg (0) (1200) (x6)) (i_x5 : Rg (0) (1199) (x5)) (by decide); omega)) ey (show x0 = x0 from (by have := (i_x2 : Rg (1) (1200) (x2)).1; have := (i_x2 : Rg (1) (1200) (x2)).2; have hq_ := ((thI T r_x1 (k := 82) rfl : Rg (-128) (127) ((hI h x1 x6.toNatClampNeg))) : Rg (-128) (127) ((hI h x1 x6.toNatClampNeg))); have := hq_.1; have := hq_.2; have := (i_x5 : Rg (0) (1199) (x5)).1; have := (i_x5 : Rg (0) (1199) (x5)).2; have := (i_x6 : Rg (0) (1200) (x6)).1; have := (i_x6 : Rg (0) (1200) (x6)).2; have := (i_o_1 : Rg (-128) (127) (o_1.1)).1; have := (i_o_1 : Rg (-128) (127) (o_1.1)).2; have := (i_f_4 : Rg (0) (0) (o_2.1)).1; have := (i_f_4 : Rg (0) (0) (o_2.1)).2; have : (o_1.1).toInt = -1 ∨ (0 ≤ (x6).toInt ∧ (x6).toInt ≤ 1199) := p1_or p_o_1; have : (o_2.1).toInt = 0 ∨ (48 ≤ (o_1.1).toInt ∧ (o_1.1).toInt ≤ 57) := p1_or p_o_2; have := eq_i c_3; have : (0 : Int32).toInt = 0 := rfl; have := lt_i c_5; have : ((2 : Int32)).toInt = 2 := rfl; have : ((x6 - x5) : Int32).toInt = (x6 : Int32).toInt - (x5 : Int32).toInt := ti_sub (i_x6 : Rg (0) (1200) (x6)) (i_x5 : Rg (0) (1199) (x5)) (by decide); omega))
      · have _ := c_5
        have i_f_7 : Rg (-1199) (2) ((x6 - x5)) := rg_le1 (nlt_le c_5) (rg_sub i_x6 i_x5 (by decide) : Rg (-1199) (1200) ((x6 - x5))) (rg_b rfl : Rg (2) (2) ((2 : Int32)))
        exact zX15_nextToken_194 hF (pmA_s hA rfl) T_2 r_x0 r_x1 i_x4 i_x5 i_x6 (rg_m (rg_b rfl : Rg (2) (2) ((2 : Int32))) (by decide)) r_x0 (show e0 < (x6).toInt ∧ (x6).toInt ≤ n0 from (by have := (i_x6 : Rg (0) (1200) (x6)).1; have := (i_x6 : Rg (0) (1200) (x6)).2; have := (i_x2 : Rg (1) (1200) (x2)).1; have := (i_x2 : Rg (1) (1200) (x2)).2; have hq_ := ((thI T r_x1 (k := 82) rfl : Rg (-128) (127) ((hI h x1 x6.toNatClampNeg))) : Rg (-128) (127) ((hI h x1 x6.toNatClampNeg))); have := hq_.1; have := hq_.2; have := (i_x5 : Rg (0) (1199) (x5)).1; have := (i_x5 : Rg (0) (1199) (x5)).2; have := (i_o_1 : Rg (-128) (127) (o_1.1)).1; have := (i_o_1 : Rg (-128) (127) (o_1.1)).2; have := (i_f_4 : Rg (0) (0) (o_2.1)).1; have := (i_f_4 : Rg (0) (0) (o_2.1)).2; have : (o_1.1).toInt = -1 ∨ (0 ≤ (x6).toInt ∧ (x6).toInt ≤ 1199) := p1_or p_o_1; have : (o_2.1).toInt = 0 ∨ (48 ≤ (o_1.1).toInt ∧ (o_1.1).toInt ≤ 57) := p1_or p_o_2; have := eq_i c_3; have : (0 : Int32).toInt = 0 := rfl; have := nlt_i c_5; have : ((2 : Int32)).toInt = 2 := rfl; have : ((x6 - x5) : Int32).toInt = (x6 : Int32).toInt - (x5 : Int32).toInt := ti_sub (i_x6 : Rg (0) (1200) (x6)) (i_x5 : Rg (0) (1199) (x5)) (by decide); omega)) ey (show x0 = x0 from (by have := (i_x2 : Rg (1) (1200) (x2)).1; have := (i_x2 : Rg (1) (1200) (x2)).2; have hq_ := ((thI T r_x1 (k := 82) rfl : Rg (-128) (127) ((hI h x1 x6.toNatClampNeg))) : Rg (-128) (127) ((hI h x1 x6.toNatClampNeg))); have := hq_.1; have := hq_.2; have := (i_x5 : Rg (0) (1199) (x5)).1; have := (i_x5 : Rg (0) (1199) (x5)).2; have := (i_x6 : Rg (0) (1200) (x6)).1; have := (i_x6 : Rg (0) (1200) (x6)).2; have := (i_o_1 : Rg (-128) (127) (o_1.1)).1; have := (i_o_1 : Rg (-128) (127) (o_1.1)).2; have := (i_f_4 : Rg (0) (0) (o_2.1)).1; have := (i_f_4 : Rg (0) (0) (o_2.1)).2; have : (o_1.1).toInt = -1 ∨ (0 ≤ (x6).toInt ∧ (x6).toInt ≤ 1199) := p1_or p_o_1; have : (o_2.1).toInt = 0 ∨ (48 ≤ (o_1.1).toInt ∧ (o_1.1).toInt ≤ 57) := p1_or p_o_2; have := eq_i c_3; have : (0 : Int32).toInt = 0 := rfl; have := nlt_i c_5; have : ((2 : Int32)).toInt = 2 := rfl; have : ((x6 - x5) : Int32).toInt = (x6 : Int32).toInt - (x5 : Int32).toInt := ti_sub (i_x6 : Rg (0) (1200) (x6)) (i_x5 : Rg (0) (1199) (x5)) (by decide); omega))
    · have _ := c_3
      have i_f_8 : Rg (1) (1) (o_2.1) := rg_nlo c_3 i_o_2 (rg_b rfl : Rg (0) (0) (0 : Int32))
      have p_f_9 := p_o_2 c_3
      have p_f_10 := p_o_1 (fun q => rc_eq q p_f_9 (rg_b rfl : Rg (-1) (-1) (-1 : Int32)) (by decide))
      refine s_q (fun v_5 e_11 => ?_)
      have i_v_5 : Rg (1) (1200) (v_5) := by rw [e_11]; exact (rg_add p_f_10 (rg_b rfl : Rg (1) (1) ((1 : Int32))) (by decide) : Rg (1) (1200) (x6 + (1 : Int32)))
      have m_12 : (v_5).toInt = x6.toInt + 1 := by rw [e_11]; exact rg_inc p_f_10 (by decide)
      exact hk_159 T_2 r_x0 r_x1 i_x2 i_x4 i_x5 (rg_m i_v_5 (by decide)) en (show (e0 ≤ (x5).toInt ∧ (x5).toInt ≤ (v_5).toInt ∧ (v_5).toInt ≤ n0) ∧ (e0 < (v_5).toInt ∨ ((v_5).toInt < n0 ∧ 48 ≤ (hI o_2.2 x1 (v_5).toNatClampNeg).toInt ∧ (hI o_2.2 x1 (v_5).toNatClampNeg).toInt ≤ 57)) from (by have := (i_x5 : Rg (0) (1199) (x5)).1; have := (i_x5 : Rg (0) (1199) (x5)).2; have := (i_v_5 : Rg (1) (1200) (v_5)).1; have := (i_v_5 : Rg (1) (1200) (v_5)).2; have : (v_5).toInt = (x6 + (1 : Int32) : Int32).toInt := congrArg Int32.toInt e_11; have : (x6 + (1 : Int32) : Int32).toInt = (x6 : Int32).toInt + ((1 : Int32) : Int32).toInt := ti_add (p_f_10 : Rg (0) (1199) (x6)) ((rg_b rfl : Rg (1) (1) ((1 : Int32))) : Rg (1) (1) ((1 : Int32))) (by decide); have := (p_f_10 : Rg (0) (1199) (x6)).1; have := (p_f_10 : Rg (0) (1199) (x6)).2; have : ((1 : Int32)).toInt = 1 := rfl; have hq_ := ((thI T_2 r_x1 (k := 82) rfl : Rg (-128) (127) ((hI o_2.2 x1 v_5.toNatClampNeg))) : Rg (-128) (127) ((hI o_2.2 x1 v_5.toNatClampNeg))); have := hq_.1; have := hq_.2; have : (hI o_2.2 x1 v_5.toNatClampNeg).toInt = (hI o_1.2 x1 v_5.toNatClampNeg).toInt := congrArg Int32.toInt (he_e e_o_2); have : (hI o_1.2 x1 v_5.toNatClampNeg).toInt = (hI h x1 v_5.toNatClampNeg).toInt := congrArg Int32.toInt (he_e e_o_1); have := (i_x2 : Rg (1) (1200) (x2)).1; have := (i_x2 : Rg (1) (1200) (x2)).2; have hq_ := ((thI T r_x1 (k := 82) rfl : Rg (-128) (127) ((hI h x1 x6.toNatClampNeg))) : Rg (-128) (127) ((hI h x1 x6.toNatClampNeg))); have := hq_.1; have := hq_.2; have := (p_f_9 : Rg (48) (57) (o_1.1)).1; have := (p_f_9 : Rg (48) (57) (o_1.1)).2; have := (i_f_8 : Rg (1) (1) (o_2.1)).1; have := (i_f_8 : Rg (1) (1) (o_2.1)).2; have := ne_i c_3; have : (0 : Int32).toInt = 0 := rfl; omega)) ey (by have := hc_159; omega)
set_option maxRecDepth 20000 in
theorem zX15_nextToken_32 {ρ : Nat → Nat} {c : Cm} {F : Nat} {e0 : Int} {n0 : Int} {y1 : Nat} (hF : 700000 ≤ F) (hA : pmA c [(16, 6), (16, 7), (16, 8), (16, 9)]) {h : Hp} {x0 : Nat} {x1 : Nat} {x2 : Int32} {x3 : Int32} (T : TH ρ c h) (r_x0 : ρ x0 = 16) (r_x1 : ρ x1 = 82) (i_x2 : Rg (0) (1200) (x2)) (i_x3 : Rg (0) (1200) (x3)) (en : (x2.toInt = n0)) (k5 : (e0 ≤ x3.toInt ∧ x3.toInt ≤ n0)) (ey : (x1 = y1)) : Sat (sX15_nextToken_32 F h x0 x1 x2 x3) (ZQ (ZV ρ c) (fun o => (e0 ≤ (hI o x0 8).toInt) ∧ ((hI o x0 8).toInt ≤ n0) ∧ ((hI o x0 6).toInt = 4 ∨ e0 < (hI o x0 8).toInt) ∧ (WdP x0 y1 o))) := by
  unfold sX15_nextToken_32 sX15_nextToken_139 sX15_nextToken_153 sX15_nextToken_308
  refine s_hq (th_wI T r_x0 (k := 16) (lo := (0)) (hi := (1200)) rfl (i_x3 : Rg (0) (1200) (x3)) (by decide) (by decide) (pm_a hA rfl)) (fun h_1 T_1 w_2 => ?_)
  refine s_dP0q (zX15_byteAt hF T_1 r_x0 r_x1 i_x2 (rg_m i_x3 (by decide))) (fun o_2 eb_o_2 e_o_2 i_o_2 p_o_2 pp_o_2 => ?_)
  have pq_o_2_0 : (x3).toInt < (x2).toInt → o_2.1.toInt = (hI h_1 x1 (x3).toNatClampNeg).toInt := pp_o_2.1
  have pq_o_2_1 : (x2).toInt ≤ (x3).toInt → o_2.1.toInt = -1 := pp_o_2.2
  have T_3 := th_eq e_o_2 T_1
  refine s_br (fun c_4 => ?_) (fun c_4 => ?_)
  · have _ := c_4
    have i_f_5 : Rg (0) (1199) (x3) := rg_lt1 c_4 i_x3 i_x2
    have i_f_6 : Rg (1) (1200) (x2) := rg_lt2 c_4 i_x3 i_x2
    refine s_dP0q (zX15_isSmall hF T_3 i_o_2) (fun o_4 eb_o_4 e_o_4 i_o_4 p_o_4 pp_o_4 => ?_)
    have pq_o_4_0 : o_4.1.toInt = 0 → ((o_2.1).toInt < 97 ∨ 122 < (o_2.1).toInt) := pp_o_4
    have T_7 := th_eq e_o_4 T_3
    have es_8 : hI o_4.2 x0 7 = x3 := Int32.toInt_inj.mp (by have : (hI o_4.2 x0 7).toInt = (hI o_2.2 x0 7).toInt := congrArg Int32.toInt (he_e e_o_4); have : (hI o_2.2 x0 7).toInt = (hI h_1 x0 7).toInt := congrArg Int32.toInt (he_e e_o_2); have : (hI h_1 x0 7).toInt = (x3 : Int32).toInt := congrArg Int32.toInt (he_s w_2); have := (i_f_5 : Rg (0) (1199) (x3)).1; have := (i_f_5 : Rg (0) (1199) (x3)).2; omega)
    refine s_br (fun c_9 => ?_) (fun c_9 => ?_)
    · have _ := c_9
      have i_f_10 : Rg (0) (0) (o_4.1) := rg_eq c_9 (rg_b rfl : Rg (0) (0) (0 : Int32))
      refine s_dP0q (zX15_isDigit hF T_7 i_o_2) (fun o_6 eb_o_6 e_o_6 i_o_6 p_o_6 pp_o_6 => ?_)
      have pq_o_6_0 : o_6.1.toInt = 0 → ((o_2.1).toInt < 48 ∨ 57 < (o_2.1).toInt) := pp_o_6
      have T_11 := th_eq e_o_6 T_7
      refine s_br (fun c_12 => ?_) (fun c_12 => ?_)
      · have _ := c_12
        have i_f_13 : Rg (0) (0) (o_6.1) := rg_eq c_12 (rg_b rfl : Rg (0) (0) (0 : Int32))
        refine s_br (fun c_14 => ?_) (fun c_14 => ?_)
        · have _ := c_14
          have i_f_15 : Rg (45) (45) (o_2.1) := rg_eq c_14 (rg_b rfl : Rg (45) (45) ((45 : Int32)))
          have p_f_16 := p_o_2 (fun q => rc_eq q i_f_15 (rg_b rfl : Rg (-1) (-1) (-1 : Int32)) (by decide))
          refine s_dP0q (zX15_byteAt hF T_11 r_x0 r_x1 (rg_m i_f_6 (by decide)) (rg_m (rg_add i_f_5 (rg_b rfl : Rg (1) (1) ((1 : Int32))) (by decide) : Rg (1) (1200) ((x3 + (1 : Int32)))) (by decide))) (fun o_9 eb_o_9 e_o_9 i_o_9 p_o_9 pp_o_9 => ?_)
          have pq_o_9_0 : ((x3 + (1 : Int32))).toInt < (x2).toInt → o_9.1.toInt = (hI o_6.2 x1 ((x3 + (1 : Int32))).toNatClampNeg).toInt := pp_o_9.1
          have pq_o_9_1 : (x2).toInt ≤ ((x3 + (1 : Int32))).toInt → o_9.1.toInt = -1 := pp_o_9.2
          have T_17 := th_eq e_o_9 T_11
          refine s_dP0q (zX15_isDigit hF T_17 i_o_9) (fun o_10 eb_o_10 e_o_10 i_o_10 p_o_10 pp_o_10 => ?_)
          have pq_o_10_0 : o_10.1.toInt = 0 → ((o_9.1).toInt < 48 ∨ 57 < (o_9.1).toInt) := pp_o_10
          have T_18 := th_eq e_o_10 T_17
          refine s_br (fun c_19 => ?_) (fun c_19 => ?_)
          · have _ := c_19
            have i_f_20 : Rg (0) (0) (o_10.1) := rg_eq c_19 (rg_b rfl : Rg (0) (0) (0 : Int32))
            exact zX15_nextToken_278 hF (pmA_s hA rfl) T_18 r_x0 i_f_5 (rg_m i_f_15 (by decide)) (show e0 ≤ (x3).toInt ∧ (x3).toInt < n0 from (by have := (i_f_5 : Rg (0) (1199) (x3)).1; have := (i_f_5 : Rg (0) (1199) (x3)).2; have := (i_f_6 : Rg (1) (1200) (x2)).1; have := (i_f_6 : Rg (1) (1200) (x2)).2; have := (i_f_20 : Rg (0) (0) (o_10.1)).1; have := (i_f_20 : Rg (0) (0) (o_10.1)).2; have := (i_o_9 : Rg (-128) (127) (o_9.1)).1; have := (i_o_9 : Rg (-128) (127) (o_9.1)).2; have hq_ := ((thI T_1 r_x1 (k := 82) rfl : Rg (-128) (127) ((hI h_1 x1 x3.toNatClampNeg))) : Rg (-128) (127) ((hI h_1 x1 x3.toNatClampNeg))); have := hq_.1; have := hq_.2; have : (hI h_1 x1 x3.toNatClampNeg).toInt = (hI h x1 x3.toNatClampNeg).toInt := congrArg Int32.toInt (he_w w_2 (ne_r r_x1 r_x0 (by decide))); have := (i_f_15 : Rg (45) (45) (o_2.1)).1; have := (i_f_15 : Rg (45) (45) (o_2.1)).2; have := (i_f_10 : Rg (0) (0) (o_4.1)).1; have := (i_f_10 : Rg (0) (0) (o_4.1)).2; have := (i_f_13 : Rg (0) (0) (o_6.1)).1; have := (i_f_13 : Rg (0) (0) (o_6.1)).2; have : (o_4.1).toInt = 0 ∨ (97 ≤ (o_2.1).toInt ∧ (o_2.1).toInt ≤ 122) := p1_or p_o_4; have : (o_6.1).toInt = 0 ∨ (48 ≤ (o_2.1).toInt ∧ (o_2.1).toInt ≤ 57) := p1_or p_o_6; have : (o_9.1).toInt = -1 ∨ (0 ≤ ((x3 + (1 : Int32))).toInt ∧ ((x3 + (1 : Int32))).toInt ≤ 1199) := p1_or p_o_9; have : ((x3 + (1 : Int32)) : Int32).toInt = (x3 : Int32).toInt + ((1 : Int32) : Int32).toInt := ti_add (i_f_5 : Rg (0) (1199) (x3)) ((rg_b rfl : Rg (1) (1) ((1 : Int32))) : Rg (1) (1) ((1 : Int32))) (by decide); have : ((1 : Int32)).toInt = 1 := rfl; have : (o_10.1).toInt = 0 ∨ (48 ≤ (o_9.1).toInt ∧ (o_9.1).toInt ≤ 57) := p1_or p_o_10; have := lt_i c_4; have := eq_i c_9; have : (0 : Int32).toInt = 0 := rfl; have := eq_i c_12; have := eq_i c_14; have : ((45 : Int32)).toInt = 45 := rfl; have := eq_i c_19; omega))
          · have _ := c_19
            have i_f_21 : Rg (1) (1) (o_10.1) := rg_nlo c_19 i_o_10 (rg_b rfl : Rg (0) (0) (0 : Int32))
            have p_f_22 := p_o_10 c_19
            have p_f_23 := p_o_9 (fun q => rc_eq q p_f_22 (rg_b rfl : Rg (-1) (-1) (-1 : Int32)) (by decide))
            refine s_br (fun c_24 => ?_) (fun c_24 => ?_)
            · have _ := c_24
              have og_25 : Rg (0) (1199) ((x3 + (1 : Int32))) := ⟨(by have : ((x3 + (1 : Int32)) : Int32).toInt = (x3 : Int32).toInt + ((1 : Int32) : Int32).toInt := ti_add (i_f_5 : Rg (0) (1199) (x3)) ((rg_b rfl : Rg (1) (1) ((1 : Int32))) : Rg (1) (1) ((1 : Int32))) (by decide); have := (i_f_5 : Rg (0) (1199) (x3)).1; have := (i_f_5 : Rg (0) (1199) (x3)).2; have : ((1 : Int32)).toInt = 1 := rfl; have := (i_f_6 : Rg (1) (1200) (x2)).1; have := (i_f_6 : Rg (1) (1200) (x2)).2; have := (i_f_21 : Rg (1) (1) (o_10.1)).1; have := (i_f_21 : Rg (1) (1) (o_10.1)).2; have := (p_f_22 : Rg (48) (57) (o_9.1)).1; have := (p_f_22 : Rg (48) (57) (o_9.1)).2; have hq_ := ((thI T_1 r_x1 (k := 82) rfl : Rg (-128) (127) ((hI h_1 x1 x3.toNatClampNeg))) : Rg (-128) (127) ((hI h_1 x1 x3.toNatClampNeg))); have := hq_.1; have := hq_.2; have : (hI h_1 x1 x3.toNatClampNeg).toInt = (hI h x1 x3.toNatClampNeg).toInt := congrArg Int32.toInt (he_w w_2 (ne_r r_x1 r_x0 (by decide))); have := (i_f_15 : Rg (45) (45) (o_2.1)).1; have := (i_f_15 : Rg (45) (45) (o_2.1)).2; have := (i_f_10 : Rg (0) (0) (o_4.1)).1; have := (i_f_10 : Rg (0) (0) (o_4.1)).2; have := (i_f_13 : Rg (0) (0) (o_6.1)).1; have := (i_f_13 : Rg (0) (0) (o_6.1)).2; have : (o_4.1).toInt = 0 ∨ (97 ≤ (o_2.1).toInt ∧ (o_2.1).toInt ≤ 122) := p1_or p_o_4; have : (o_6.1).toInt = 0 ∨ (48 ≤ (o_2.1).toInt ∧ (o_2.1).toInt ≤ 57) := p1_or p_o_6; have := lt_i c_4; have := eq_i c_9; have : (0 : Int32).toInt = 0 := rfl; have := eq_i c_12; have := eq_i c_14; have : ((45 : Int32)).toInt = 45 := rfl; have := ne_i c_19; have := eq_i c_24; omega), (by have : ((x3 + (1 : Int32)) : Int32).toInt = (x3 : Int32).toInt + ((1 : Int32) : Int32).toInt := ti_add (i_f_5 : Rg (0) (1199) (x3)) ((rg_b rfl : Rg (1) (1) ((1 : Int32))) : Rg (1) (1) ((1 : Int32))) (by decide); have := (i_f_5 : Rg (0) (1199) (x3)).1; have := (i_f_5 : Rg (0) (1199) (x3)).2; have : ((1 : Int32)).toInt = 1 := rfl; have := (i_f_6 : Rg (1) (1200) (x2)).1; have := (i_f_6 : Rg (1) (1200) (x2)).2; have := (i_f_21 : Rg (1) (1) (o_10.1)).1; have := (i_f_21 : Rg (1) (1) (o_10.1)).2; have := (p_f_22 : Rg (48) (57) (o_9.1)).1; have := (p_f_22 : Rg (48) (57) (o_9.1)).2; have hq_ := ((thI T_1 r_x1 (k := 82) rfl : Rg (-128) (127) ((hI h_1 x1 x3.toNatClampNeg))) : Rg (-128) (127) ((hI h_1 x1 x3.toNatClampNeg))); have := hq_.1; have := hq_.2; have : (hI h_1 x1 x3.toNatClampNeg).toInt = (hI h x1 x3.toNatClampNeg).toInt := congrArg Int32.toInt (he_w w_2 (ne_r r_x1 r_x0 (by decide))); have := (i_f_15 : Rg (45) (45) (o_2.1)).1; have := (i_f_15 : Rg (45) (45) (o_2.1)).2; have := (i_f_10 : Rg (0) (0) (o_4.1)).1; have := (i_f_10 : Rg (0) (0) (o_4.1)).2; have := (i_f_13 : Rg (0) (0) (o_6.1)).1; have := (i_f_13 : Rg (0) (0) (o_6.1)).2; have : (o_4.1).toInt = 0 ∨ (97 ≤ (o_2.1).toInt ∧ (o_2.1).toInt ≤ 122) := p1_or p_o_4; have : (o_6.1).toInt = 0 ∨ (48 ≤ (o_2.1).toInt ∧ (o_2.1).toInt ≤ 57) := p1_or p_o_6; have := lt_i c_4; have := eq_i c_9; have : (0 : Int32).toInt = 0 := rfl; have := eq_i c_12; have := eq_i c_14; have : ((45 : Int32)).toInt = 45 := rfl; have := ne_i c_19; have := eq_i c_24; omega)⟩
              have m_26 : Rg (0) (1200) ((x3 + (1 : Int32))) := (rg_m (rg_add i_f_5 (rg_b rfl : Rg (1) (1) ((1 : Int32))) (by decide) : Rg (1) (1200) ((x3 + (1 : Int32)))) (by decide))
              exact zX15_nextToken_159 hF (pmA_s hA rfl) F T_18 r_x0 r_x1 i_f_6 (rg_m i_f_15 (by decide)) og_25 (rg_m (rg_add i_f_5 (rg_b rfl : Rg (1) (1) ((1 : Int32))) (by decide) : Rg (1) (1200) ((x3 + (1 : Int32)))) (by decide)) en (show (e0 ≤ ((x3 + (1 : Int32))).toInt ∧ ((x3 + (1 : Int32))).toInt ≤ ((x3 + (1 : Int32))).toInt ∧ ((x3 + (1 : Int32))).toInt ≤ n0) ∧ (e0 < ((x3 + (1 : Int32))).toInt ∨ (((x3 + (1 : Int32))).toInt < n0 ∧ 48 ≤ (hI o_10.2 x1 ((x3 + (1 : Int32))).toNatClampNeg).toInt ∧ (hI o_10.2 x1 ((x3 + (1 : Int32))).toNatClampNeg).toInt ≤ 57)) from (by have : ((x3 + (1 : Int32)) : Int32).toInt = (x3 : Int32).toInt + ((1 : Int32) : Int32).toInt := ti_add (i_f_5 : Rg (0) (1199) (x3)) ((rg_b rfl : Rg (1) (1) ((1 : Int32))) : Rg (1) (1) ((1 : Int32))) (by decide); have := (i_f_5 : Rg (0) (1199) (x3)).1; have := (i_f_5 : Rg (0) (1199) (x3)).2; have : ((1 : Int32)).toInt = 1 := rfl; have := (i_f_6 : Rg (1) (1200) (x2)).1; have := (i_f_6 : Rg (1) (1200) (x2)).2; have := (i_f_21 : Rg (1) (1) (o_10.1)).1; have := (i_f_21 : Rg (1) (1) (o_10.1)).2; have := (p_f_22 : Rg (48) (57) (o_9.1)).1; have := (p_f_22 : Rg (48) (57) (o_9.1)).2; have hq_ := ((thI T_1 r_x1 (k := 82) rfl : Rg (-128) (127) ((hI h_1 x1 x3.toNatClampNeg))) : Rg (-128) (127) ((hI h_1 x1 x3.toNatClampNeg))); have := hq_.1; have := hq_.2; have : (hI h_1 x1 x3.toNatClampNeg).toInt = (hI h x1 x3.toNatClampNeg).toInt := congrArg Int32.toInt (he_w w_2 (ne_r r_x1 r_x0 (by decide))); have := (i_f_15 : Rg (45) (45) (o_2.1)).1; have := (i_f_15 : Rg (45) (45) (o_2.1)).2; have := (i_f_10 : Rg (0) (0) (o_4.1)).1; have := (i_f_10 : Rg (0) (0) (o_4.1)).2; have := (i_f_13 : Rg (0) (0) (o_6.1)).1; have := (i_f_13 : Rg (0) (0) (o_6.1)).2; have : (o_4.1).toInt = 0 ∨ (97 ≤ (o_2.1).toInt ∧ (o_2.1).toInt ≤ 122) := p1_or p_o_4; have : (o_6.1).toInt = 0 ∨ (48 ≤ (o_2.1).toInt ∧ (o_2.1).toInt ≤ 57) := p1_or p_o_6; have := lt_i c_4; have := eq_i c_9; have : (0 : Int32).toInt = 0 := rfl; have := eq_i c_12; have := eq_i c_14; have : ((45 : Int32)).toInt = 45 := rfl; have := ne_i c_19; have := eq_i c_24; omega)) ey (by have := m_26.1; have := m_26.2; omega)
            · have _ := c_24
              exact (rc_ne c_24 i_f_15 (rg_b rfl : Rg (45) (45) ((45 : Int32)))).elim
        · have _ := c_14
          exact zX15_nextToken_278 hF (pmA_s hA rfl) T_11 r_x0 i_f_5 i_o_2 (show e0 ≤ (x3).toInt ∧ (x3).toInt < n0 from (by have := (i_f_5 : Rg (0) (1199) (x3)).1; have := (i_f_5 : Rg (0) (1199) (x3)).2; have := (i_f_6 : Rg (1) (1200) (x2)).1; have := (i_f_6 : Rg (1) (1200) (x2)).2; have hq_ := ((thI T_1 r_x1 (k := 82) rfl : Rg (-128) (127) ((hI h_1 x1 x3.toNatClampNeg))) : Rg (-128) (127) ((hI h_1 x1 x3.toNatClampNeg))); have := hq_.1; have := hq_.2; have : (hI h_1 x1 x3.toNatClampNeg).toInt = (hI h x1 x3.toNatClampNeg).toInt := congrArg Int32.toInt (he_w w_2 (ne_r r_x1 r_x0 (by decide))); have := (i_o_2 : Rg (-128) (127) (o_2.1)).1; have := (i_o_2 : Rg (-128) (127) (o_2.1)).2; have := (i_f_10 : Rg (0) (0) (o_4.1)).1; have := (i_f_10 : Rg (0) (0) (o_4.1)).2; have := (i_f_13 : Rg (0) (0) (o_6.1)).1; have := (i_f_13 : Rg (0) (0) (o_6.1)).2; have : (o_2.1).toInt = -1 ∨ (0 ≤ (x3).toInt ∧ (x3).toInt ≤ 1199) := p1_or p_o_2; have : (o_4.1).toInt = 0 ∨ (97 ≤ (o_2.1).toInt ∧ (o_2.1).toInt ≤ 122) := p1_or p_o_4; have : (o_6.1).toInt = 0 ∨ (48 ≤ (o_2.1).toInt ∧ (o_2.1).toInt ≤ 57) := p1_or p_o_6; have := lt_i c_4; have := eq_i c_9; have : (0 : Int32).toInt = 0 := rfl; have := eq_i c_12; have := ne_i c_14; have : ((45 : Int32)).toInt = 45 := rfl; omega))
      · have _ := c_12
        have i_f_27 : Rg (1) (1) (o_6.1) := rg_nlo c_12 i_o_6 (rg_b rfl : Rg (0) (0) (0 : Int32))
        have p_f_28 := p_o_6 c_12
        have p_f_29 := p_o_2 (fun q => rc_eq q p_f_28 (rg_b rfl : Rg (-1) (-1) (-1 : Int32)) (by decide))
        refine s_br (fun c_30 => ?_) (fun c_30 => ?_)
        · have _ := c_30
          exact (rc_eq c_30 p_f_28 (rg_b rfl : Rg (45) (45) ((45 : Int32))) (by decide)).elim
        · have _ := c_30
          have m_31 : Rg (0) (1200) (x3) := (rg_m i_f_5 (by decide))
          exact zX15_nextToken_159 hF (pmA_s hA rfl) F T_11 r_x0 r_x1 i_f_6 (rg_m p_f_28 (by decide)) i_f_5 (rg_m i_f_5 (by decide)) en (show (e0 ≤ (x3).toInt ∧ (x3).toInt ≤ (x3).toInt ∧ (x3).toInt ≤ n0) ∧ (e0 < (x3).toInt ∨ ((x3).toInt < n0 ∧ 48 ≤ (hI o_6.2 x1 (x3).toNatClampNeg).toInt ∧ (hI o_6.2 x1 (x3).toNatClampNeg).toInt ≤ 57)) from (by have := (i_f_5 : Rg (0) (1199) (x3)).1; have := (i_f_5 : Rg (0) (1199) (x3)).2; have hq_ := ((thI T_11 r_x1 (k := 82) rfl : Rg (-128) (127) ((hI o_6.2 x1 x3.toNatClampNeg))) : Rg (-128) (127) ((hI o_6.2 x1 x3.toNatClampNeg))); have := hq_.1; have := hq_.2; have : (hI o_6.2 x1 x3.toNatClampNeg).toInt = (hI o_4.2 x1 x3.toNatClampNeg).toInt := congrArg Int32.toInt (he_e e_o_6); have : (hI o_4.2 x1 x3.toNatClampNeg).toInt = (hI o_2.2 x1 x3.toNatClampNeg).toInt := congrArg Int32.toInt (he_e e_o_4); have : (hI o_2.2 x1 x3.toNatClampNeg).toInt = (hI h_1 x1 x3.toNatClampNeg).toInt := congrArg Int32.toInt (he_e e_o_2); have : (hI h_1 x1 x3.toNatClampNeg).toInt = (hI h x1 x3.toNatClampNeg).toInt := congrArg Int32.toInt (he_w w_2 (ne_r r_x1 r_x0 (by decide))); have := (i_f_6 : Rg (1) (1200) (x2)).1; have := (i_f_6 : Rg (1) (1200) (x2)).2; have hq_ := ((thI T_1 r_x1 (k := 82) rfl : Rg (-128) (127) ((hI h_1 x1 x3.toNatClampNeg))) : Rg (-128) (127) ((hI h_1 x1 x3.toNatClampNeg))); have := hq_.1; have := hq_.2; have := (p_f_28 : Rg (48) (57) (o_2.1)).1; have := (p_f_28 : Rg (48) (57) (o_2.1)).2; have := (i_f_10 : Rg (0) (0) (o_4.1)).1; have := (i_f_10 : Rg (0) (0) (o_4.1)).2; have := (i_f_27 : Rg (1) (1) (o_6.1)).1; have := (i_f_27 : Rg (1) (1) (o_6.1)).2; have : (o_4.1).toInt = 0 ∨ (97 ≤ (o_2.1).toInt ∧ (o_2.1).toInt ≤ 122) := p1_or p_o_4; have := lt_i c_4; have := eq_i c_9; have : (0 : Int32).toInt = 0 := rfl; have := ne_i c_12; have := ne_i c_30; have : ((45 : Int32)).toInt = 45 := rfl; omega)) ey (by have := m_31.1; have := m_31.2; omega)
    · have _ := c_9
      have i_f_32 : Rg (1) (1) (o_4.1) := rg_nlo c_9 i_o_4 (rg_b rfl : Rg (0) (0) (0 : Int32))
      have p_f_33 := p_o_4 c_9
      have p_f_34 := p_o_2 (fun q => rc_eq q p_f_33 (rg_b rfl : Rg (-1) (-1) (-1 : Int32)) (by decide))
      have m_35 : Rg (0) (1200) (x3) := (rg_m i_f_5 (by decide))
      exact zX15_nextToken_77 hF (pmA_s hA rfl) F T_7 r_x0 r_x1 i_f_6 (rg_m i_f_5 (by decide)) en (show (e0 ≤ (x3).toInt ∧ (x3).toInt ≤ n0) ∧ (e0 < (x3).toInt ∨ ((x3).toInt < n0 ∧ 97 ≤ (hI o_4.2 x1 (x3).toNatClampNeg).toInt ∧ (hI o_4.2 x1 (x3).toNatClampNeg).toInt ≤ 122)) from (by have := (i_f_5 : Rg (0) (1199) (x3)).1; have := (i_f_5 : Rg (0) (1199) (x3)).2; have hq_ := ((thI T_7 r_x1 (k := 82) rfl : Rg (-128) (127) ((hI o_4.2 x1 x3.toNatClampNeg))) : Rg (-128) (127) ((hI o_4.2 x1 x3.toNatClampNeg))); have := hq_.1; have := hq_.2; have : (hI o_4.2 x1 x3.toNatClampNeg).toInt = (hI o_2.2 x1 x3.toNatClampNeg).toInt := congrArg Int32.toInt (he_e e_o_4); have : (hI o_2.2 x1 x3.toNatClampNeg).toInt = (hI h_1 x1 x3.toNatClampNeg).toInt := congrArg Int32.toInt (he_e e_o_2); have : (hI h_1 x1 x3.toNatClampNeg).toInt = (hI h x1 x3.toNatClampNeg).toInt := congrArg Int32.toInt (he_w w_2 (ne_r r_x1 r_x0 (by decide))); have := (i_f_6 : Rg (1) (1200) (x2)).1; have := (i_f_6 : Rg (1) (1200) (x2)).2; have hq_ := ((thI T_1 r_x1 (k := 82) rfl : Rg (-128) (127) ((hI h_1 x1 x3.toNatClampNeg))) : Rg (-128) (127) ((hI h_1 x1 x3.toNatClampNeg))); have := hq_.1; have := hq_.2; have := (p_f_33 : Rg (97) (122) (o_2.1)).1; have := (p_f_33 : Rg (97) (122) (o_2.1)).2; have := (i_f_32 : Rg (1) (1) (o_4.1)).1; have := (i_f_32 : Rg (1) (1) (o_4.1)).2; have := lt_i c_4; have := ne_i c_9; have : (0 : Int32).toInt = 0 := rfl; omega)) ey (ta_in es_8 (show 97 ≤ (hI o_4.2 x1 x3.toNatClampNeg).toInt ∧ (hI o_4.2 x1 x3.toNatClampNeg).toInt ≤ 122 from (by have hq_ := ((thI T_7 r_x1 (k := 82) rfl : Rg (-128) (127) ((hI o_4.2 x1 x3.toNatClampNeg))) : Rg (-128) (127) ((hI o_4.2 x1 x3.toNatClampNeg))); have := hq_.1; have := hq_.2; have : (hI o_4.2 x1 x3.toNatClampNeg).toInt = (hI o_2.2 x1 x3.toNatClampNeg).toInt := congrArg Int32.toInt (he_e e_o_4); have : (hI o_2.2 x1 x3.toNatClampNeg).toInt = (hI h_1 x1 x3.toNatClampNeg).toInt := congrArg Int32.toInt (he_e e_o_2); have : (hI h_1 x1 x3.toNatClampNeg).toInt = (hI h x1 x3.toNatClampNeg).toInt := congrArg Int32.toInt (he_w w_2 (ne_r r_x1 r_x0 (by decide))); have := (i_f_5 : Rg (0) (1199) (x3)).1; have := (i_f_5 : Rg (0) (1199) (x3)).2; have := (i_f_6 : Rg (1) (1200) (x2)).1; have := (i_f_6 : Rg (1) (1200) (x2)).2; have hq_ := ((thI T_1 r_x1 (k := 82) rfl : Rg (-128) (127) ((hI h_1 x1 x3.toNatClampNeg))) : Rg (-128) (127) ((hI h_1 x1 x3.toNatClampNeg))); have := hq_.1; have := hq_.2; have := (p_f_33 : Rg (97) (122) (o_2.1)).1; have := (p_f_33 : Rg (97) (122) (o_2.1)).2; have := (i_f_32 : Rg (1) (1) (o_4.1)).1; have := (i_f_32 : Rg (1) (1) (o_4.1)).2; have := lt_i c_4; have := ne_i c_9; have : (0 : Int32).toInt = 0 := rfl; omega))) (by have := m_35.1; have := m_35.2; omega)
  · have _ := c_4
    refine s_hq (th_wI T_3 r_x0 (k := 16) (lo := (0)) (hi := (1200)) rfl (i_x2 : Rg (0) (1200) (x2)) (by decide) (by decide) (pm_a hA rfl)) (fun h_12 T_36 w_37 => ?_)
    refine s_hq (th_wI T_36 r_x0 (k := 16) (lo := (0)) (hi := (1200)) rfl (i_x2 : Rg (0) (1200) (x2)) (by decide) (by decide) (pm_a hA rfl)) (fun h_13 T_38 w_39 => ?_)
    refine s_hq (th_wI T_38 r_x0 (k := 16) (lo := (0)) (hi := (5)) rfl ((rg_m (rg_b rfl : Rg (4) (4) ((4 : Int32))) (by decide)) : Rg (0) (5) ((4 : Int32))) (by decide) (by decide) (pm_a hA rfl)) (fun h_14 T_40 w_41 => ?_)
    exact s_some ⟨(T_40), ⟨(show e0 ≤ (hI h_14 x0 8).toInt from (by have hq_ := (((rg_hw w_41 (fun q => absurd q.2 (by decide)) (rg_hs w_39 i_x2)) : Rg (0) (1200) ((hI h_14 x0 8))) : Rg (0) (1200) ((hI h_14 x0 8))); have := hq_.1; have := hq_.2; have : (hI h_14 x0 8).toInt = (hI h_13 x0 8).toInt := congrArg Int32.toInt (he_w w_41 (fun q => absurd q.2 (by decide))); have : (hI h_13 x0 8).toInt = (x2 : Int32).toInt := congrArg Int32.toInt (he_s w_39); have := (i_x2 : Rg (0) (1200) (x2)).1; have := (i_x2 : Rg (0) (1200) (x2)).2; have := (i_x3 : Rg (0) (1200) (x3)).1; have := (i_x3 : Rg (0) (1200) (x3)).2; have hq_ := ((thI T_1 r_x1 (k := 82) rfl : Rg (-128) (127) ((hI h_1 x1 x3.toNatClampNeg))) : Rg (-128) (127) ((hI h_1 x1 x3.toNatClampNeg))); have := hq_.1; have := hq_.2; have : (hI h_1 x1 x3.toNatClampNeg).toInt = (hI h x1 x3.toNatClampNeg).toInt := congrArg Int32.toInt (he_w w_2 (ne_r r_x1 r_x0 (by decide))); have := (i_o_2 : Rg (-128) (127) (o_2.1)).1; have := (i_o_2 : Rg (-128) (127) (o_2.1)).2; have : (o_2.1).toInt = -1 ∨ (0 ≤ (x3).toInt ∧ (x3).toInt ≤ 1199) := p1_or p_o_2; have := nlt_i c_4; omega)), (show (hI h_14 x0 8).toInt ≤ n0 from (by have hq_ := (((rg_hw w_41 (fun q => absurd q.2 (by decide)) (rg_hs w_39 i_x2)) : Rg (0) (1200) ((hI h_14 x0 8))) : Rg (0) (1200) ((hI h_14 x0 8))); have := hq_.1; have := hq_.2; have : (hI h_14 x0 8).toInt = (hI h_13 x0 8).toInt := congrArg Int32.toInt (he_w w_41 (fun q => absurd q.2 (by decide))); have : (hI h_13 x0 8).toInt = (x2 : Int32).toInt := congrArg Int32.toInt (he_s w_39); have := (i_x2 : Rg (0) (1200) (x2)).1; have := (i_x2 : Rg (0) (1200) (x2)).2; have := (i_x3 : Rg (0) (1200) (x3)).1; have := (i_x3 : Rg (0) (1200) (x3)).2; have hq_ := ((thI T_1 r_x1 (k := 82) rfl : Rg (-128) (127) ((hI h_1 x1 x3.toNatClampNeg))) : Rg (-128) (127) ((hI h_1 x1 x3.toNatClampNeg))); have := hq_.1; have := hq_.2; have : (hI h_1 x1 x3.toNatClampNeg).toInt = (hI h x1 x3.toNatClampNeg).toInt := congrArg Int32.toInt (he_w w_2 (ne_r r_x1 r_x0 (by decide))); have := (i_o_2 : Rg (-128) (127) (o_2.1)).1; have := (i_o_2 : Rg (-128) (127) (o_2.1)).2; have : (o_2.1).toInt = -1 ∨ (0 ≤ (x3).toInt ∧ (x3).toInt ≤ 1199) := p1_or p_o_2; have := nlt_i c_4; omega)), (show (hI h_14 x0 6).toInt = 4 ∨ e0 < (hI h_14 x0 8).toInt from (by have hq_ := (((rg_hs w_41 (rg_b rfl : Rg (4) (4) ((4 : Int32)))) : Rg (4) (4) ((hI h_14 x0 6))) : Rg (4) (4) ((hI h_14 x0 6))); have := hq_.1; have := hq_.2; have : (hI h_14 x0 6).toInt = ((4 : Int32) : Int32).toInt := congrArg Int32.toInt (he_s w_41); have : ((4 : Int32)).toInt = 4 := rfl; have hq_ := (((rg_hw w_41 (fun q => absurd q.2 (by decide)) (rg_hs w_39 i_x2)) : Rg (0) (1200) ((hI h_14 x0 8))) : Rg (0) (1200) ((hI h_14 x0 8))); have := hq_.1; have := hq_.2; have : (hI h_14 x0 8).toInt = (hI h_13 x0 8).toInt := congrArg Int32.toInt (he_w w_41 (fun q => absurd q.2 (by decide))); have : (hI h_13 x0 8).toInt = (x2 : Int32).toInt := congrArg Int32.toInt (he_s w_39); have := (i_x2 : Rg (0) (1200) (x2)).1; have := (i_x2 : Rg (0) (1200) (x2)).2; have := (i_x3 : Rg (0) (1200) (x3)).1; have := (i_x3 : Rg (0) (1200) (x3)).2; have hq_ := ((thI T_1 r_x1 (k := 82) rfl : Rg (-128) (127) ((hI h_1 x1 x3.toNatClampNeg))) : Rg (-128) (127) ((hI h_1 x1 x3.toNatClampNeg))); have := hq_.1; have := hq_.2; have : (hI h_1 x1 x3.toNatClampNeg).toInt = (hI h x1 x3.toNatClampNeg).toInt := congrArg Int32.toInt (he_w w_2 (ne_r r_x1 r_x0 (by decide))); have := (i_o_2 : Rg (-128) (127) (o_2.1)).1; have := (i_o_2 : Rg (-128) (127) (o_2.1)).2; have : (o_2.1).toInt = -1 ∨ (0 ≤ (x3).toInt ∧ (x3).toInt ≤ 1199) := p1_or p_o_2; have := nlt_i c_4; omega)), (fun q => absurd q (by have hq_ := (((rg_hs w_41 (rg_b rfl : Rg (4) (4) ((4 : Int32)))) : Rg (4) (4) ((hI h_14 x0 6))) : Rg (4) (4) ((hI h_14 x0 6))); have := hq_.1; have := hq_.2; have : (hI h_14 x0 6).toInt = ((4 : Int32) : Int32).toInt := congrArg Int32.toInt (he_s w_41); have : ((4 : Int32)).toInt = 4 := rfl; have := (i_x2 : Rg (0) (1200) (x2)).1; have := (i_x2 : Rg (0) (1200) (x2)).2; have := (i_x3 : Rg (0) (1200) (x3)).1; have := (i_x3 : Rg (0) (1200) (x3)).2; have hq_ := ((thI T_1 r_x1 (k := 82) rfl : Rg (-128) (127) ((hI h_1 x1 x3.toNatClampNeg))) : Rg (-128) (127) ((hI h_1 x1 x3.toNatClampNeg))); have := hq_.1; have := hq_.2; have : (hI h_1 x1 x3.toNatClampNeg).toInt = (hI h x1 x3.toNatClampNeg).toInt := congrArg Int32.toInt (he_w w_2 (ne_r r_x1 r_x0 (by decide))); have := (i_o_2 : Rg (-128) (127) (o_2.1)).1; have := (i_o_2 : Rg (-128) (127) (o_2.1)).2; have : (o_2.1).toInt = -1 ∨ (0 ≤ (x3).toInt ∧ (x3).toInt ≤ 1199) := p1_or p_o_2; have := nlt_i c_4; omega))⟩⟩
set_option maxRecDepth 20000 in
theorem zX15_nextToken_5 {ρ : Nat → Nat} {c : Cm} {F : Nat} {e0 : Int} {n0 : Int} {y1 : Nat} (hF : 700000 ≤ F) (hA : pmA c [(16, 6), (16, 7), (16, 8), (16, 9)]) : ∀ (f : Nat) {h : Hp} {x0 : Nat} {x1 : Nat} {x2 : Int32} {x3 : Int32}, TH ρ c h → ρ x0 = 16 → ρ x1 = 82 → Rg (0) (1200) (x2) → Rg (0) (1200) (x3) → (x2.toInt = n0) → (e0 ≤ x3.toInt ∧ x3.toInt ≤ n0) → (x1 = y1) → (1200 - x3.toInt).toNat < f → Sat (sX15_nextToken_5 F f h x0 x1 x2 x3) (ZQ (ZV ρ c) (fun o => (e0 ≤ (hI o x0 8).toInt) ∧ ((hI o x0 8).toInt ≤ n0) ∧ ((hI o x0 6).toInt = 4 ∨ e0 < (hI o x0 8).toInt) ∧ (WdP x0 y1 o))) := by
  intro f
  induction f with
  | zero => intros; omega
  | succ f ih =>
    intro h x0 x1 x2 x3 T r_x0 r_x1 i_x2 i_x3 en k5 ey hm
    rw [sX15_nextToken_5]
    unfold sX15_nextToken_26
    obtain ⟨C_5, hC_5⟩ : ∃ C : Int, C = x3.toInt := ⟨_, rfl⟩
    have hk_5 : ∀ {h : Hp} {x0 : Nat} {x1 : Nat} {x2 : Int32} {x3 : Int32}, TH ρ c h → ρ x0 = 16 → ρ x1 = 82 → Rg (0) (1200) (x2) → Rg (0) (1200) (x3) → (x2.toInt = n0) → (e0 ≤ x3.toInt ∧ x3.toInt ≤ n0) → (x1 = y1) → C_5 < x3.toInt → Sat (sX15_nextToken_5 F f h x0 x1 x2 x3) (ZQ (ZV ρ c) (fun o => (e0 ≤ (hI o x0 8).toInt) ∧ ((hI o x0 8).toInt ≤ n0) ∧ ((hI o x0 6).toInt = 4 ∨ e0 < (hI o x0 8).toInt) ∧ (WdP x0 y1 o))) := by
      intro h' x0' x1' x2' x3' T' r_x0' r_x1' i_x2' i_x3' en' k5' ey' hl
      exact ih T' r_x0' r_x1' i_x2' i_x3' en' k5' ey' (by have := i_x3'.1; have := i_x3'.2; omega)
    have hc_5 : C_5 ≤ x3.toInt := by omega
    refine s_br (fun c_1 => ?_) (fun c_1 => ?_)
    · have _ := c_1
      exact zX15_nextToken_32 hF (pmA_s hA rfl) T r_x0 r_x1 i_x2 i_x3 en k5 ey
    · have _ := c_1
      have i_f_2 : Rg (0) (1199) (x3) := rg_lt1 (nle_lt c_1) i_x3 i_x2
      have i_f_3 : Rg (1) (1200) (x2) := rg_lt2 (nle_lt c_1) i_x3 i_x2
      refine s_gd (by rw [thN T r_x1 (k := 82) (n := 1220) rfl (by decide)]; exact rg_inB ((rg_m i_f_2 (by decide)) : Rg (0) (1219) (x3)) (by decide)) ?_
      refine s_br (fun c_4 => ?_) (fun c_4 => ?_)
      · have _ := c_4
        have i_f_5 : Rg (32) (32) ((hI h x1 x3.toNatClampNeg)) := rg_eq c_4 (rg_b rfl : Rg (32) (32) ((32 : Int32)))
        refine s_q (fun v_1q1 e_6 => ?_)
        have i_v_1q1 : Rg (1) (1200) (v_1q1) := by rw [e_6]; exact (rg_add i_f_2 (rg_b rfl : Rg (1) (1) ((1 : Int32))) (by decide) : Rg (1) (1200) (x3 + (1 : Int32)))
        have m_7 : (v_1q1).toInt = x3.toInt + 1 := by rw [e_6]; exact rg_inc i_f_2 (by decide)
        exact hk_5 T r_x0 r_x1 (rg_m i_f_3 (by decide)) (rg_m i_v_1q1 (by decide)) en (show e0 ≤ (v_1q1).toInt ∧ (v_1q1).toInt ≤ n0 from (by have := (i_v_1q1 : Rg (1) (1200) (v_1q1)).1; have := (i_v_1q1 : Rg (1) (1200) (v_1q1)).2; have : (v_1q1).toInt = (x3 + (1 : Int32) : Int32).toInt := congrArg Int32.toInt e_6; have : (x3 + (1 : Int32) : Int32).toInt = (x3 : Int32).toInt + ((1 : Int32) : Int32).toInt := ti_add (i_f_2 : Rg (0) (1199) (x3)) ((rg_b rfl : Rg (1) (1) ((1 : Int32))) : Rg (1) (1) ((1 : Int32))) (by decide); have := (i_f_2 : Rg (0) (1199) (x3)).1; have := (i_f_2 : Rg (0) (1199) (x3)).2; have : ((1 : Int32)).toInt = 1 := rfl; have := (i_f_3 : Rg (1) (1200) (x2)).1; have := (i_f_3 : Rg (1) (1200) (x2)).2; have := nle_i c_1; have := eq_i c_4; have := (i_f_5 : Rg (32) (32) ((hI h x1 x3.toNatClampNeg))).1; have := (i_f_5 : Rg (32) (32) ((hI h x1 x3.toNatClampNeg))).2; have : ((32 : Int32)).toInt = 32 := rfl; omega)) ey (by have := hc_5; omega)
      · have _ := c_4
        refine s_gd (by rw [thN T r_x1 (k := 82) (n := 1220) rfl (by decide)]; exact rg_inB ((rg_m i_f_2 (by decide)) : Rg (0) (1219) (x3)) (by decide)) ?_
        refine s_br (fun c_8 => ?_) (fun c_8 => ?_)
        · have _ := c_8
          have i_f_9 : Rg (10) (10) ((hI h x1 x3.toNatClampNeg)) := rg_eq c_8 (rg_b rfl : Rg (10) (10) ((10 : Int32)))
          refine s_q (fun v_1q2 e_10 => ?_)
          have i_v_1q2 : Rg (1) (1200) (v_1q2) := by rw [e_10]; exact (rg_add i_f_2 (rg_b rfl : Rg (1) (1) ((1 : Int32))) (by decide) : Rg (1) (1200) (x3 + (1 : Int32)))
          have m_11 : (v_1q2).toInt = x3.toInt + 1 := by rw [e_10]; exact rg_inc i_f_2 (by decide)
          exact hk_5 T r_x0 r_x1 (rg_m i_f_3 (by decide)) (rg_m i_v_1q2 (by decide)) en (show e0 ≤ (v_1q2).toInt ∧ (v_1q2).toInt ≤ n0 from (by have := (i_v_1q2 : Rg (1) (1200) (v_1q2)).1; have := (i_v_1q2 : Rg (1) (1200) (v_1q2)).2; have : (v_1q2).toInt = (x3 + (1 : Int32) : Int32).toInt := congrArg Int32.toInt e_10; have : (x3 + (1 : Int32) : Int32).toInt = (x3 : Int32).toInt + ((1 : Int32) : Int32).toInt := ti_add (i_f_2 : Rg (0) (1199) (x3)) ((rg_b rfl : Rg (1) (1) ((1 : Int32))) : Rg (1) (1) ((1 : Int32))) (by decide); have := (i_f_2 : Rg (0) (1199) (x3)).1; have := (i_f_2 : Rg (0) (1199) (x3)).2; have : ((1 : Int32)).toInt = 1 := rfl; have := (i_f_3 : Rg (1) (1200) (x2)).1; have := (i_f_3 : Rg (1) (1200) (x2)).2; have := nle_i c_1; have := ne_i c_4; have := (i_f_9 : Rg (10) (10) ((hI h x1 x3.toNatClampNeg))).1; have := (i_f_9 : Rg (10) (10) ((hI h x1 x3.toNatClampNeg))).2; have : ((32 : Int32)).toInt = 32 := rfl; have := eq_i c_8; have : ((10 : Int32)).toInt = 10 := rfl; omega)) ey (by have := hc_5; omega)
        · have _ := c_8
          exact zX15_nextToken_32 hF (pmA_s hA rfl) T r_x0 r_x1 (rg_m i_f_3 (by decide)) (rg_m i_f_2 (by decide)) en k5 ey
